/-! what a taking writes -/
theorem zI_no {μ : ZM} {a k b j : Nat} {x : Int32} (h : ¬ (b = a ∧ j = k)) : zI (sI μ a k x) b j = zI μ b j := by rw [zI_sI, if_neg h]
theorem zA_no {μ : ZM} {a k b j : Nat} {x : Option Nat} (h : ¬ (b = a ∧ j = k)) : zA (sA μ a k x) b j = zA μ b j := by rw [zA_sA, if_neg h]
def TkC2 (M F : ZM) (S A : Nat) (st bo bd ih pd nt : Int32) : Prop := zI F S 11 = st ∧ zI F S 12 = bo ∧ zI F S 13 = bd ∧ zI F S 17 = ih ∧ (st = 2 → zA F S 18 = some A) ∧ (∀ k, k ≠ 11 → k ≠ 12 → k ≠ 13 → k ≠ 17 → zI F S k = zI M S k) ∧ (∀ k, k ≠ 18 → zA F S k = zA M S k)
  ∧ zI F A 13 = 1 ∧ zI F A 14 = pd ∧ zI F A 15 = nt ∧ (∀ k, k ≠ 13 → k ≠ 14 → k ≠ 15 → zI F A k = zI M A k) ∧ (∀ k, zA F A k = zA M A k)
theorem TkC2.cg {M F F' : ZM} {S A : Nat} {st bo bd ih pd nt : Int32} (h : TkC2 M F S A st bo bd ih pd nt) (eS : ∀ k, zI F' S k = zI F S k) (eA : ∀ k, zI F' A k = zI F A k) (aS : ∀ k, zA F' S k = zA F S k) (aA : ∀ k, zA F' A k = zA F A k) : TkC2 M F' S A st bo bd ih pd nt := by
  unfold TkC2 at h ⊢
  simp only [eS, eA, aS, aA]
  exact h
def TwR (b y : Nat) : Prop := 31 ≤ b ∧ b < 88 ∧ b ≠ 72 ∧ b ≠ 73 ∧ (b = 31 → y < 76)
theorem tkC_mend {M : ZM} {S A Q n : Nat} {bo bd ih pd nt tt v0 v1 v2 : Int32} (n1 : S ≠ A) (h1 : 88 ≤ S) (h2 : 88 ≤ A) (n2 : S ≠ Q) (n3 : A ≠ Q) (h3 : 88 ≤ Q) (ep : zI M A 14 = pd) (en : zI M A 15 = nt) (eb : zI M S 12 = bo) (ei : zI M S 17 = ih) : TkC2 M (sI (sI (sI (sI (sI (sI M 17 2 v0) 17 4 v1) Q 10 v2) S 11 0) A 13 1) S 13 bd) S A 0 bo bd ih pd nt ∧ (∀ b y, ¬ (b = S ∨ b = A ∨ (b = 17 ∧ y = 2) ∨ (b = 17 ∧ y = 4) ∨ (b = Q ∧ y = 10)) → zI (sI (sI (sI (sI (sI (sI M 17 2 v0) 17 4 v1) Q 10 v2) S 11 0) A 13 1) S 13 bd) b y = zI M b y) ∧ (∀ b y, ¬ (b = S ∧ y = 18) → zA (sI (sI (sI (sI (sI (sI M 17 2 v0) 17 4 v1) Q 10 v2) S 11 0) A 13 1) S 13 bd) b y = zA M b y) ∧ zI (sI (sI (sI (sI (sI (sI M 17 2 v0) 17 4 v1) Q 10 v2) S 11 0) A 13 1) S 13 bd) 17 2 = v0 ∧ zI (sI (sI (sI (sI (sI (sI M 17 2 v0) 17 4 v1) Q 10 v2) S 11 0) A 13 1) S 13 bd) 17 4 = v1 ∧ zI (sI (sI (sI (sI (sI (sI M 17 2 v0) 17 4 v1) Q 10 v2) S 11 0) A 13 1) S 13 bd) Q 10 = v2 := by
  refine ⟨⟨?_, ?_, ?_, ?_, fun _ => ?_, fun k g1 g2 g3 g4 => ?_, fun k g1 => ?_, ?_, ?_, ?_, fun k g1 g2 g3 => ?_, fun k => ?_⟩, fun b y h => ?_, fun b y h => ?_, ?_, ?_, ?_⟩
  · simp (disch := omega) only [zI_sA, zI_no, zI_eq, zA_sI, zA_no, zA_eq]
  · simp (disch := omega) only [zI_sA, zI_no, zI_eq, zA_sI, zA_no, zA_eq]
    exact eb
  · simp (disch := omega) only [zI_sA, zI_no, zI_eq, zA_sI, zA_no, zA_eq]
  · simp (disch := omega) only [zI_sA, zI_no, zI_eq, zA_sI, zA_no, zA_eq]
    exact ei
  · exact absurd (by assumption) (by decide)
  · simp (disch := omega) only [zI_sA, zI_no, zI_eq, zA_sI, zA_no, zA_eq]
  · simp (disch := omega) only [zI_sA, zI_no, zI_eq, zA_sI, zA_no, zA_eq]
  · simp (disch := omega) only [zI_sA, zI_no, zI_eq, zA_sI, zA_no, zA_eq]
  · simp (disch := omega) only [zI_sA, zI_no, zI_eq, zA_sI, zA_no, zA_eq]
    exact ep
  · simp (disch := omega) only [zI_sA, zI_no, zI_eq, zA_sI, zA_no, zA_eq]
    exact en
  · simp (disch := omega) only [zI_sA, zI_no, zI_eq, zA_sI, zA_no, zA_eq]
  · simp (disch := omega) only [zI_sA, zI_no, zI_eq, zA_sI, zA_no, zA_eq]
  · simp (disch := omega) only [zI_sA, zI_no, zI_eq, zA_sI, zA_no, zA_eq]
  · simp (disch := omega) only [zI_sA, zI_no, zI_eq, zA_sI, zA_no, zA_eq]
  · simp (disch := omega) only [zI_sA, zI_no, zI_eq, zA_sI, zA_no, zA_eq]
  · simp (disch := omega) only [zI_sA, zI_no, zI_eq, zA_sI, zA_no, zA_eq]
  · simp (disch := omega) only [zI_sA, zI_no, zI_eq, zA_sI, zA_no, zA_eq]
theorem tkR_mend {M2 : ZM} {ρ : RV} {s i q n : Nat} {bo bd ih pd nt tt v0 v1 v2 : Int32} (R2 : ∀ b y, TwR b y → zI M2 b y = ρ b y) (ebd : bd = bdF ρ s i) (ep : ρ 83 i = pd) (en : ρ 84 i = nt) (eb : ρ 58 s = bo) (ei : ρ 60 s = ih) : TkR (sI (sI (sI (sI (sI (sI (sI M2 82 i 1) 61 s (nI i)) 59 s bd) 31 2 v0) 31 73 v1) 40 q v2) 48 s 0) ρ s i 0 bo ih pd nt ∧ (∀ b y, TwR b y → ¬ ((b = 82 ∧ y = i) ∨ (b = 61 ∧ y = s) ∨ (b = 59 ∧ y = s) ∨ (b = 31 ∧ y = 2) ∨ (b = 31 ∧ y = 73) ∨ (b = 40 ∧ y = q) ∨ (b = 48 ∧ y = s)) → zI (sI (sI (sI (sI (sI (sI (sI M2 82 i 1) 61 s (nI i)) 59 s bd) 31 2 v0) 31 73 v1) 40 q v2) 48 s 0) b y = ρ b y) ∧ (∀ b y, ¬ (31 ≤ b ∧ b < 88) → zI (sI (sI (sI (sI (sI (sI (sI M2 82 i 1) 61 s (nI i)) 59 s bd) 31 2 v0) 31 73 v1) 40 q v2) 48 s 0) b y = zI M2 b y) ∧ zI (sI (sI (sI (sI (sI (sI (sI M2 82 i 1) 61 s (nI i)) 59 s bd) 31 2 v0) 31 73 v1) 40 q v2) 48 s 0) 31 2 = v0 ∧ zI (sI (sI (sI (sI (sI (sI (sI M2 82 i 1) 61 s (nI i)) 59 s bd) 31 2 v0) 31 73 v1) 40 q v2) 48 s 0) 31 73 = v1 ∧ zI (sI (sI (sI (sI (sI (sI (sI M2 82 i 1) 61 s (nI i)) 59 s bd) 31 2 v0) 31 73 v1) 40 q v2) 48 s 0) 40 q = v2 := by
  have R3 : ∀ b y, 31 ≤ b → b < 88 → b ≠ 72 → b ≠ 73 → (b = 31 → y < 76) → zI M2 b y = ρ b y := fun b y a1 a2 a3 a4 a5 => R2 b y ⟨a1, a2, a3, a4, a5⟩
  refine ⟨⟨?_, ?_, ?_, ?_, ?_, fun b g1 g2 g3 g4 g5 g6 g7 => ?_, ?_, ?_, ?_, fun b g1 g2 => ?_, fun y g1 => ?_⟩, fun b y h h' => ?_, fun b y h => ?_, ?_, ?_, ?_⟩
  · simp (disch := omega) only [zI_sA, zI_no, zI_eq, zA_sI, zA_no, zA_eq, R3]
  · simp (disch := omega) only [zI_sA, zI_no, zI_eq, zA_sI, zA_no, zA_eq, R3]
    exact eb
  · simp (disch := omega) only [zI_sA, zI_no, zI_eq, zA_sI, zA_no, zA_eq, R3]
    exact ebd
  · simp (disch := omega) only [zI_sA, zI_no, zI_eq, zA_sI, zA_no, zA_eq, R3]
    exact ei
  · simp (disch := omega) only [zI_sA, zI_no, zI_eq, zA_sI, zA_no, zA_eq, R3]
  · simp (disch := omega) only [zI_sA, zI_no, zI_eq, zA_sI, zA_no, zA_eq, R3]
  · simp (disch := omega) only [zI_sA, zI_no, zI_eq, zA_sI, zA_no, zA_eq, R3]
  · simp (disch := omega) only [zI_sA, zI_no, zI_eq, zA_sI, zA_no, zA_eq, R3]
    exact ep
  · simp (disch := omega) only [zI_sA, zI_no, zI_eq, zA_sI, zA_no, zA_eq, R3]
    exact en
  · simp (disch := omega) only [zI_sA, zI_no, zI_eq, zA_sI, zA_no, zA_eq, R3]
  · simp (disch := omega) only [zI_sA, zI_no, zI_eq, zA_sI, zA_no, zA_eq, R3]
  · obtain ⟨a1, a2, a3, a4, a5⟩ := h
    simp (disch := omega) only [zI_sA, zI_no, zI_eq, zA_sI, zA_no, zA_eq, R3]
  · simp (disch := omega) only [zI_sA, zI_no, zI_eq, zA_sI, zA_no, zA_eq, R3]
  · simp (disch := omega) only [zI_sA, zI_no, zI_eq, zA_sI, zA_no, zA_eq, R3]
  · simp (disch := omega) only [zI_sA, zI_no, zI_eq, zA_sI, zA_no, zA_eq, R3]
  · simp (disch := omega) only [zI_sA, zI_no, zI_eq, zA_sI, zA_no, zA_eq, R3]
theorem tkC_note {M : ZM} {S A Q n : Nat} {bo bd ih pd nt tt v0 v1 : Int32} (n1 : S ≠ A) (h1 : 88 ≤ S) (h2 : 88 ≤ A) : TkC2 M (sI (sI (sI (sA (sI (sI (sI (sI (sI (sI M 18 n v0) 17 1 v1) A 15 nt) A 14 pd) S 11 2) S 12 tt) S 18 (some A)) S 17 1) A 13 1) S 13 bd) S A 2 tt bd 1 pd nt ∧ (∀ b y, ¬ (b = S ∨ b = A ∨ (b = 18 ∧ y = n) ∨ (b = 17 ∧ y = 1)) → zI (sI (sI (sI (sA (sI (sI (sI (sI (sI (sI M 18 n v0) 17 1 v1) A 15 nt) A 14 pd) S 11 2) S 12 tt) S 18 (some A)) S 17 1) A 13 1) S 13 bd) b y = zI M b y) ∧ (∀ b y, ¬ (b = S ∧ y = 18) → zA (sI (sI (sI (sA (sI (sI (sI (sI (sI (sI M 18 n v0) 17 1 v1) A 15 nt) A 14 pd) S 11 2) S 12 tt) S 18 (some A)) S 17 1) A 13 1) S 13 bd) b y = zA M b y) ∧ zI (sI (sI (sI (sA (sI (sI (sI (sI (sI (sI M 18 n v0) 17 1 v1) A 15 nt) A 14 pd) S 11 2) S 12 tt) S 18 (some A)) S 17 1) A 13 1) S 13 bd) 18 n = v0 ∧ zI (sI (sI (sI (sA (sI (sI (sI (sI (sI (sI M 18 n v0) 17 1 v1) A 15 nt) A 14 pd) S 11 2) S 12 tt) S 18 (some A)) S 17 1) A 13 1) S 13 bd) 17 1 = v1 := by
  refine ⟨⟨?_, ?_, ?_, ?_, fun _ => ?_, fun k g1 g2 g3 g4 => ?_, fun k g1 => ?_, ?_, ?_, ?_, fun k g1 g2 g3 => ?_, fun k => ?_⟩, fun b y h => ?_, fun b y h => ?_, ?_, ?_⟩
  · simp (disch := omega) only [zI_sA, zI_no, zI_eq, zA_sI, zA_no, zA_eq]
  · simp (disch := omega) only [zI_sA, zI_no, zI_eq, zA_sI, zA_no, zA_eq]
  · simp (disch := omega) only [zI_sA, zI_no, zI_eq, zA_sI, zA_no, zA_eq]
  · simp (disch := omega) only [zI_sA, zI_no, zI_eq, zA_sI, zA_no, zA_eq]
  · simp (disch := omega) only [zI_sA, zI_no, zI_eq, zA_sI, zA_no, zA_eq]
  · simp (disch := omega) only [zI_sA, zI_no, zI_eq, zA_sI, zA_no, zA_eq]
  · simp (disch := omega) only [zI_sA, zI_no, zI_eq, zA_sI, zA_no, zA_eq]
  · simp (disch := omega) only [zI_sA, zI_no, zI_eq, zA_sI, zA_no, zA_eq]
  · simp (disch := omega) only [zI_sA, zI_no, zI_eq, zA_sI, zA_no, zA_eq]
  · simp (disch := omega) only [zI_sA, zI_no, zI_eq, zA_sI, zA_no, zA_eq]
  · simp (disch := omega) only [zI_sA, zI_no, zI_eq, zA_sI, zA_no, zA_eq]
  · simp (disch := omega) only [zI_sA, zI_no, zI_eq, zA_sI, zA_no, zA_eq]
  · simp (disch := omega) only [zI_sA, zI_no, zI_eq, zA_sI, zA_no, zA_eq]
  · simp (disch := omega) only [zI_sA, zI_no, zI_eq, zA_sI, zA_no, zA_eq]
  · simp (disch := omega) only [zI_sA, zI_no, zI_eq, zA_sI, zA_no, zA_eq]
  · simp (disch := omega) only [zI_sA, zI_no, zI_eq, zA_sI, zA_no, zA_eq]
theorem tkR_note {M2 : ZM} {ρ : RV} {s i q n : Nat} {bo bd ih pd nt tt v0 v1 : Int32} (R2 : ∀ b y, TwR b y → zI M2 b y = ρ b y) (ebd : bd = bdF ρ s i) : TkR (sI (sI (sI (sI (sI (sI (sI (sI (sI (sI M2 82 i 1) 61 s (nI i)) 59 s bd) 48 s 2) 58 s tt) 60 s 1) 85 n v0) 84 i nt) 83 i pd) 31 74 v1) ρ s i 2 tt 1 pd nt ∧ (∀ b y, TwR b y → ¬ ((b = 82 ∧ y = i) ∨ (b = 61 ∧ y = s) ∨ (b = 59 ∧ y = s) ∨ (b = 48 ∧ y = s) ∨ (b = 58 ∧ y = s) ∨ (b = 60 ∧ y = s) ∨ (b = 85 ∧ y = n) ∨ (b = 84 ∧ y = i) ∨ (b = 83 ∧ y = i) ∨ (b = 31 ∧ y = 74)) → zI (sI (sI (sI (sI (sI (sI (sI (sI (sI (sI M2 82 i 1) 61 s (nI i)) 59 s bd) 48 s 2) 58 s tt) 60 s 1) 85 n v0) 84 i nt) 83 i pd) 31 74 v1) b y = ρ b y) ∧ (∀ b y, ¬ (31 ≤ b ∧ b < 88) → zI (sI (sI (sI (sI (sI (sI (sI (sI (sI (sI M2 82 i 1) 61 s (nI i)) 59 s bd) 48 s 2) 58 s tt) 60 s 1) 85 n v0) 84 i nt) 83 i pd) 31 74 v1) b y = zI M2 b y) ∧ zI (sI (sI (sI (sI (sI (sI (sI (sI (sI (sI M2 82 i 1) 61 s (nI i)) 59 s bd) 48 s 2) 58 s tt) 60 s 1) 85 n v0) 84 i nt) 83 i pd) 31 74 v1) 85 n = v0 ∧ zI (sI (sI (sI (sI (sI (sI (sI (sI (sI (sI M2 82 i 1) 61 s (nI i)) 59 s bd) 48 s 2) 58 s tt) 60 s 1) 85 n v0) 84 i nt) 83 i pd) 31 74 v1) 31 74 = v1 := by
  have R3 : ∀ b y, 31 ≤ b → b < 88 → b ≠ 72 → b ≠ 73 → (b = 31 → y < 76) → zI M2 b y = ρ b y := fun b y a1 a2 a3 a4 a5 => R2 b y ⟨a1, a2, a3, a4, a5⟩
  refine ⟨⟨?_, ?_, ?_, ?_, ?_, fun b g1 g2 g3 g4 g5 g6 g7 => ?_, ?_, ?_, ?_, fun b g1 g2 => ?_, fun y g1 => ?_⟩, fun b y h h' => ?_, fun b y h => ?_, ?_, ?_⟩
  · simp (disch := omega) only [zI_sA, zI_no, zI_eq, zA_sI, zA_no, zA_eq, R3]
  · simp (disch := omega) only [zI_sA, zI_no, zI_eq, zA_sI, zA_no, zA_eq, R3]
  · simp (disch := omega) only [zI_sA, zI_no, zI_eq, zA_sI, zA_no, zA_eq, R3]
    exact ebd
  · simp (disch := omega) only [zI_sA, zI_no, zI_eq, zA_sI, zA_no, zA_eq, R3]
  · simp (disch := omega) only [zI_sA, zI_no, zI_eq, zA_sI, zA_no, zA_eq, R3]
  · simp (disch := omega) only [zI_sA, zI_no, zI_eq, zA_sI, zA_no, zA_eq, R3]
  · simp (disch := omega) only [zI_sA, zI_no, zI_eq, zA_sI, zA_no, zA_eq, R3]
  · simp (disch := omega) only [zI_sA, zI_no, zI_eq, zA_sI, zA_no, zA_eq, R3]
  · simp (disch := omega) only [zI_sA, zI_no, zI_eq, zA_sI, zA_no, zA_eq, R3]
  · simp (disch := omega) only [zI_sA, zI_no, zI_eq, zA_sI, zA_no, zA_eq, R3]
  · simp (disch := omega) only [zI_sA, zI_no, zI_eq, zA_sI, zA_no, zA_eq, R3]
  · obtain ⟨a1, a2, a3, a4, a5⟩ := h
    simp (disch := omega) only [zI_sA, zI_no, zI_eq, zA_sI, zA_no, zA_eq, R3]
  · simp (disch := omega) only [zI_sA, zI_no, zI_eq, zA_sI, zA_no, zA_eq, R3]
  · simp (disch := omega) only [zI_sA, zI_no, zI_eq, zA_sI, zA_no, zA_eq, R3]
  · simp (disch := omega) only [zI_sA, zI_no, zI_eq, zA_sI, zA_no, zA_eq, R3]
theorem tkC_lot {M : ZM} {S A Q n : Nat} {bo bd ih pd nt tt v0 : Int32} (n1 : S ≠ A) (h1 : 88 ≤ S) (h2 : 88 ≤ A) (n2 : S ≠ Q) (n3 : A ≠ Q) (h3 : 88 ≤ Q) (ep : zI M A 14 = pd) (en : zI M A 15 = nt) : TkC2 M (sI (sI (sI (sA (sI (sI (sI M Q 2 v0) S 11 2) S 12 tt) S 18 (some A)) S 17 1) A 13 1) S 13 bd) S A 2 tt bd 1 pd nt ∧ (∀ b y, ¬ (b = S ∨ b = A ∨ (b = Q ∧ y = 2)) → zI (sI (sI (sI (sA (sI (sI (sI M Q 2 v0) S 11 2) S 12 tt) S 18 (some A)) S 17 1) A 13 1) S 13 bd) b y = zI M b y) ∧ (∀ b y, ¬ (b = S ∧ y = 18) → zA (sI (sI (sI (sA (sI (sI (sI M Q 2 v0) S 11 2) S 12 tt) S 18 (some A)) S 17 1) A 13 1) S 13 bd) b y = zA M b y) ∧ zI (sI (sI (sI (sA (sI (sI (sI M Q 2 v0) S 11 2) S 12 tt) S 18 (some A)) S 17 1) A 13 1) S 13 bd) Q 2 = v0 := by
  refine ⟨⟨?_, ?_, ?_, ?_, fun _ => ?_, fun k g1 g2 g3 g4 => ?_, fun k g1 => ?_, ?_, ?_, ?_, fun k g1 g2 g3 => ?_, fun k => ?_⟩, fun b y h => ?_, fun b y h => ?_, ?_⟩
  · simp (disch := omega) only [zI_sA, zI_no, zI_eq, zA_sI, zA_no, zA_eq]
  · simp (disch := omega) only [zI_sA, zI_no, zI_eq, zA_sI, zA_no, zA_eq]
  · simp (disch := omega) only [zI_sA, zI_no, zI_eq, zA_sI, zA_no, zA_eq]
  · simp (disch := omega) only [zI_sA, zI_no, zI_eq, zA_sI, zA_no, zA_eq]
  · simp (disch := omega) only [zI_sA, zI_no, zI_eq, zA_sI, zA_no, zA_eq]
  · simp (disch := omega) only [zI_sA, zI_no, zI_eq, zA_sI, zA_no, zA_eq]
  · simp (disch := omega) only [zI_sA, zI_no, zI_eq, zA_sI, zA_no, zA_eq]
  · simp (disch := omega) only [zI_sA, zI_no, zI_eq, zA_sI, zA_no, zA_eq]
  · simp (disch := omega) only [zI_sA, zI_no, zI_eq, zA_sI, zA_no, zA_eq]
    exact ep
  · simp (disch := omega) only [zI_sA, zI_no, zI_eq, zA_sI, zA_no, zA_eq]
    exact en
  · simp (disch := omega) only [zI_sA, zI_no, zI_eq, zA_sI, zA_no, zA_eq]
  · simp (disch := omega) only [zI_sA, zI_no, zI_eq, zA_sI, zA_no, zA_eq]
  · simp (disch := omega) only [zI_sA, zI_no, zI_eq, zA_sI, zA_no, zA_eq]
  · simp (disch := omega) only [zI_sA, zI_no, zI_eq, zA_sI, zA_no, zA_eq]
  · simp (disch := omega) only [zI_sA, zI_no, zI_eq, zA_sI, zA_no, zA_eq]
theorem tkR_lot {M2 : ZM} {ρ : RV} {s i q n : Nat} {bo bd ih pd nt tt v0 : Int32} (R2 : ∀ b y, TwR b y → zI M2 b y = ρ b y) (ebd : bd = bdF ρ s i) (ep : ρ 83 i = pd) (en : ρ 84 i = nt) : TkR (sI (sI (sI (sI (sI (sI (sI M2 82 i 1) 61 s (nI i)) 59 s bd) 48 s 2) 58 s tt) 60 s 1) 47 q v0) ρ s i 2 tt 1 pd nt ∧ (∀ b y, TwR b y → ¬ ((b = 82 ∧ y = i) ∨ (b = 61 ∧ y = s) ∨ (b = 59 ∧ y = s) ∨ (b = 48 ∧ y = s) ∨ (b = 58 ∧ y = s) ∨ (b = 60 ∧ y = s) ∨ (b = 47 ∧ y = q)) → zI (sI (sI (sI (sI (sI (sI (sI M2 82 i 1) 61 s (nI i)) 59 s bd) 48 s 2) 58 s tt) 60 s 1) 47 q v0) b y = ρ b y) ∧ (∀ b y, ¬ (31 ≤ b ∧ b < 88) → zI (sI (sI (sI (sI (sI (sI (sI M2 82 i 1) 61 s (nI i)) 59 s bd) 48 s 2) 58 s tt) 60 s 1) 47 q v0) b y = zI M2 b y) ∧ zI (sI (sI (sI (sI (sI (sI (sI M2 82 i 1) 61 s (nI i)) 59 s bd) 48 s 2) 58 s tt) 60 s 1) 47 q v0) 47 q = v0 := by
  have R3 : ∀ b y, 31 ≤ b → b < 88 → b ≠ 72 → b ≠ 73 → (b = 31 → y < 76) → zI M2 b y = ρ b y := fun b y a1 a2 a3 a4 a5 => R2 b y ⟨a1, a2, a3, a4, a5⟩
  refine ⟨⟨?_, ?_, ?_, ?_, ?_, fun b g1 g2 g3 g4 g5 g6 g7 => ?_, ?_, ?_, ?_, fun b g1 g2 => ?_, fun y g1 => ?_⟩, fun b y h h' => ?_, fun b y h => ?_, ?_⟩
  · simp (disch := omega) only [zI_sA, zI_no, zI_eq, zA_sI, zA_no, zA_eq, R3]
  · simp (disch := omega) only [zI_sA, zI_no, zI_eq, zA_sI, zA_no, zA_eq, R3]
  · simp (disch := omega) only [zI_sA, zI_no, zI_eq, zA_sI, zA_no, zA_eq, R3]
    exact ebd
  · simp (disch := omega) only [zI_sA, zI_no, zI_eq, zA_sI, zA_no, zA_eq, R3]
  · simp (disch := omega) only [zI_sA, zI_no, zI_eq, zA_sI, zA_no, zA_eq, R3]
  · simp (disch := omega) only [zI_sA, zI_no, zI_eq, zA_sI, zA_no, zA_eq, R3]
  · simp (disch := omega) only [zI_sA, zI_no, zI_eq, zA_sI, zA_no, zA_eq, R3]
  · simp (disch := omega) only [zI_sA, zI_no, zI_eq, zA_sI, zA_no, zA_eq, R3]
    exact ep
  · simp (disch := omega) only [zI_sA, zI_no, zI_eq, zA_sI, zA_no, zA_eq, R3]
    exact en
  · simp (disch := omega) only [zI_sA, zI_no, zI_eq, zA_sI, zA_no, zA_eq, R3]
  · simp (disch := omega) only [zI_sA, zI_no, zI_eq, zA_sI, zA_no, zA_eq, R3]
  · obtain ⟨a1, a2, a3, a4, a5⟩ := h
    simp (disch := omega) only [zI_sA, zI_no, zI_eq, zA_sI, zA_no, zA_eq, R3]
  · simp (disch := omega) only [zI_sA, zI_no, zI_eq, zA_sI, zA_no, zA_eq, R3]
  · simp (disch := omega) only [zI_sA, zI_no, zI_eq, zA_sI, zA_no, zA_eq, R3]
theorem tkC_loose {M : ZM} {S A Q n : Nat} {bo bd ih pd nt tt v0 : Int32} (n1 : S ≠ A) (h1 : 88 ≤ S) (h2 : 88 ≤ A) (n2 : S ≠ Q) (n3 : A ≠ Q) (h3 : 88 ≤ Q) (ep : zI M A 14 = pd) (en : zI M A 15 = nt) : TkC2 M (sI (sI (sI (sA (sI (sI (sI M Q 7 v0) S 11 2) S 12 tt) S 18 (some A)) S 17 1) A 13 1) S 13 bd) S A 2 tt bd 1 pd nt ∧ (∀ b y, ¬ (b = S ∨ b = A ∨ (b = Q ∧ y = 7)) → zI (sI (sI (sI (sA (sI (sI (sI M Q 7 v0) S 11 2) S 12 tt) S 18 (some A)) S 17 1) A 13 1) S 13 bd) b y = zI M b y) ∧ (∀ b y, ¬ (b = S ∧ y = 18) → zA (sI (sI (sI (sA (sI (sI (sI M Q 7 v0) S 11 2) S 12 tt) S 18 (some A)) S 17 1) A 13 1) S 13 bd) b y = zA M b y) ∧ zI (sI (sI (sI (sA (sI (sI (sI M Q 7 v0) S 11 2) S 12 tt) S 18 (some A)) S 17 1) A 13 1) S 13 bd) Q 7 = v0 := by
  refine ⟨⟨?_, ?_, ?_, ?_, fun _ => ?_, fun k g1 g2 g3 g4 => ?_, fun k g1 => ?_, ?_, ?_, ?_, fun k g1 g2 g3 => ?_, fun k => ?_⟩, fun b y h => ?_, fun b y h => ?_, ?_⟩
  · simp (disch := omega) only [zI_sA, zI_no, zI_eq, zA_sI, zA_no, zA_eq]
  · simp (disch := omega) only [zI_sA, zI_no, zI_eq, zA_sI, zA_no, zA_eq]
  · simp (disch := omega) only [zI_sA, zI_no, zI_eq, zA_sI, zA_no, zA_eq]
  · simp (disch := omega) only [zI_sA, zI_no, zI_eq, zA_sI, zA_no, zA_eq]
  · simp (disch := omega) only [zI_sA, zI_no, zI_eq, zA_sI, zA_no, zA_eq]
  · simp (disch := omega) only [zI_sA, zI_no, zI_eq, zA_sI, zA_no, zA_eq]
  · simp (disch := omega) only [zI_sA, zI_no, zI_eq, zA_sI, zA_no, zA_eq]
  · simp (disch := omega) only [zI_sA, zI_no, zI_eq, zA_sI, zA_no, zA_eq]
  · simp (disch := omega) only [zI_sA, zI_no, zI_eq, zA_sI, zA_no, zA_eq]
    exact ep
  · simp (disch := omega) only [zI_sA, zI_no, zI_eq, zA_sI, zA_no, zA_eq]
    exact en
  · simp (disch := omega) only [zI_sA, zI_no, zI_eq, zA_sI, zA_no, zA_eq]
  · simp (disch := omega) only [zI_sA, zI_no, zI_eq, zA_sI, zA_no, zA_eq]
  · simp (disch := omega) only [zI_sA, zI_no, zI_eq, zA_sI, zA_no, zA_eq]
  · simp (disch := omega) only [zI_sA, zI_no, zI_eq, zA_sI, zA_no, zA_eq]
  · simp (disch := omega) only [zI_sA, zI_no, zI_eq, zA_sI, zA_no, zA_eq]
theorem tkR_loose {M2 : ZM} {ρ : RV} {s i q n : Nat} {bo bd ih pd nt tt v0 : Int32} (R2 : ∀ b y, TwR b y → zI M2 b y = ρ b y) (ebd : bd = bdF ρ s i) (ep : ρ 83 i = pd) (en : ρ 84 i = nt) : TkR (sI (sI (sI (sI (sI (sI (sI M2 82 i 1) 61 s (nI i)) 59 s bd) 48 s 2) 58 s tt) 60 s 1) 38 q v0) ρ s i 2 tt 1 pd nt ∧ (∀ b y, TwR b y → ¬ ((b = 82 ∧ y = i) ∨ (b = 61 ∧ y = s) ∨ (b = 59 ∧ y = s) ∨ (b = 48 ∧ y = s) ∨ (b = 58 ∧ y = s) ∨ (b = 60 ∧ y = s) ∨ (b = 38 ∧ y = q)) → zI (sI (sI (sI (sI (sI (sI (sI M2 82 i 1) 61 s (nI i)) 59 s bd) 48 s 2) 58 s tt) 60 s 1) 38 q v0) b y = ρ b y) ∧ (∀ b y, ¬ (31 ≤ b ∧ b < 88) → zI (sI (sI (sI (sI (sI (sI (sI M2 82 i 1) 61 s (nI i)) 59 s bd) 48 s 2) 58 s tt) 60 s 1) 38 q v0) b y = zI M2 b y) ∧ zI (sI (sI (sI (sI (sI (sI (sI M2 82 i 1) 61 s (nI i)) 59 s bd) 48 s 2) 58 s tt) 60 s 1) 38 q v0) 38 q = v0 := by
  have R3 : ∀ b y, 31 ≤ b → b < 88 → b ≠ 72 → b ≠ 73 → (b = 31 → y < 76) → zI M2 b y = ρ b y := fun b y a1 a2 a3 a4 a5 => R2 b y ⟨a1, a2, a3, a4, a5⟩
  refine ⟨⟨?_, ?_, ?_, ?_, ?_, fun b g1 g2 g3 g4 g5 g6 g7 => ?_, ?_, ?_, ?_, fun b g1 g2 => ?_, fun y g1 => ?_⟩, fun b y h h' => ?_, fun b y h => ?_, ?_⟩
  · simp (disch := omega) only [zI_sA, zI_no, zI_eq, zA_sI, zA_no, zA_eq, R3]
  · simp (disch := omega) only [zI_sA, zI_no, zI_eq, zA_sI, zA_no, zA_eq, R3]
  · simp (disch := omega) only [zI_sA, zI_no, zI_eq, zA_sI, zA_no, zA_eq, R3]
    exact ebd
  · simp (disch := omega) only [zI_sA, zI_no, zI_eq, zA_sI, zA_no, zA_eq, R3]
  · simp (disch := omega) only [zI_sA, zI_no, zI_eq, zA_sI, zA_no, zA_eq, R3]
  · simp (disch := omega) only [zI_sA, zI_no, zI_eq, zA_sI, zA_no, zA_eq, R3]
  · simp (disch := omega) only [zI_sA, zI_no, zI_eq, zA_sI, zA_no, zA_eq, R3]
  · simp (disch := omega) only [zI_sA, zI_no, zI_eq, zA_sI, zA_no, zA_eq, R3]
    exact ep
  · simp (disch := omega) only [zI_sA, zI_no, zI_eq, zA_sI, zA_no, zA_eq, R3]
    exact en
  · simp (disch := omega) only [zI_sA, zI_no, zI_eq, zA_sI, zA_no, zA_eq, R3]
  · simp (disch := omega) only [zI_sA, zI_no, zI_eq, zA_sI, zA_no, zA_eq, R3]
  · obtain ⟨a1, a2, a3, a4, a5⟩ := h
    simp (disch := omega) only [zI_sA, zI_no, zI_eq, zA_sI, zA_no, zA_eq, R3]
  · simp (disch := omega) only [zI_sA, zI_no, zI_eq, zA_sI, zA_no, zA_eq, R3]
  · simp (disch := omega) only [zI_sA, zI_no, zI_eq, zA_sI, zA_no, zA_eq, R3]
theorem tkC_coins {M : ZM} {S A Q n : Nat} {bo bd ih pd nt tt v0 v1 : Int32} (n1 : S ≠ A) (h1 : 88 ≤ S) (h2 : 88 ≤ A) (en : zI M A 15 = nt) : TkC2 M (sI (sI (sI (sA (sI (sI (sI (sI (sI M 17 2 v0) 17 3 v1) A 14 pd) S 11 2) S 12 tt) S 18 (some A)) S 17 1) A 13 1) S 13 bd) S A 2 tt bd 1 pd nt ∧ (∀ b y, ¬ (b = S ∨ b = A ∨ (b = 17 ∧ y = 2) ∨ (b = 17 ∧ y = 3)) → zI (sI (sI (sI (sA (sI (sI (sI (sI (sI M 17 2 v0) 17 3 v1) A 14 pd) S 11 2) S 12 tt) S 18 (some A)) S 17 1) A 13 1) S 13 bd) b y = zI M b y) ∧ (∀ b y, ¬ (b = S ∧ y = 18) → zA (sI (sI (sI (sA (sI (sI (sI (sI (sI M 17 2 v0) 17 3 v1) A 14 pd) S 11 2) S 12 tt) S 18 (some A)) S 17 1) A 13 1) S 13 bd) b y = zA M b y) ∧ zI (sI (sI (sI (sA (sI (sI (sI (sI (sI M 17 2 v0) 17 3 v1) A 14 pd) S 11 2) S 12 tt) S 18 (some A)) S 17 1) A 13 1) S 13 bd) 17 2 = v0 ∧ zI (sI (sI (sI (sA (sI (sI (sI (sI (sI M 17 2 v0) 17 3 v1) A 14 pd) S 11 2) S 12 tt) S 18 (some A)) S 17 1) A 13 1) S 13 bd) 17 3 = v1 := by
  refine ⟨⟨?_, ?_, ?_, ?_, fun _ => ?_, fun k g1 g2 g3 g4 => ?_, fun k g1 => ?_, ?_, ?_, ?_, fun k g1 g2 g3 => ?_, fun k => ?_⟩, fun b y h => ?_, fun b y h => ?_, ?_, ?_⟩
  · simp (disch := omega) only [zI_sA, zI_no, zI_eq, zA_sI, zA_no, zA_eq]
  · simp (disch := omega) only [zI_sA, zI_no, zI_eq, zA_sI, zA_no, zA_eq]
  · simp (disch := omega) only [zI_sA, zI_no, zI_eq, zA_sI, zA_no, zA_eq]
  · simp (disch := omega) only [zI_sA, zI_no, zI_eq, zA_sI, zA_no, zA_eq]
  · simp (disch := omega) only [zI_sA, zI_no, zI_eq, zA_sI, zA_no, zA_eq]
  · simp (disch := omega) only [zI_sA, zI_no, zI_eq, zA_sI, zA_no, zA_eq]
  · simp (disch := omega) only [zI_sA, zI_no, zI_eq, zA_sI, zA_no, zA_eq]
  · simp (disch := omega) only [zI_sA, zI_no, zI_eq, zA_sI, zA_no, zA_eq]
  · simp (disch := omega) only [zI_sA, zI_no, zI_eq, zA_sI, zA_no, zA_eq]
  · simp (disch := omega) only [zI_sA, zI_no, zI_eq, zA_sI, zA_no, zA_eq]
    exact en
  · simp (disch := omega) only [zI_sA, zI_no, zI_eq, zA_sI, zA_no, zA_eq]
  · simp (disch := omega) only [zI_sA, zI_no, zI_eq, zA_sI, zA_no, zA_eq]
  · simp (disch := omega) only [zI_sA, zI_no, zI_eq, zA_sI, zA_no, zA_eq]
  · simp (disch := omega) only [zI_sA, zI_no, zI_eq, zA_sI, zA_no, zA_eq]
  · simp (disch := omega) only [zI_sA, zI_no, zI_eq, zA_sI, zA_no, zA_eq]
  · simp (disch := omega) only [zI_sA, zI_no, zI_eq, zA_sI, zA_no, zA_eq]
theorem tkR_coins {M2 : ZM} {ρ : RV} {s i q n : Nat} {bo bd ih pd nt tt v0 v1 : Int32} (R2 : ∀ b y, TwR b y → zI M2 b y = ρ b y) (ebd : bd = bdF ρ s i) (en : ρ 84 i = nt) : TkR (sI (sI (sI (sI (sI (sI (sI (sI (sI M2 82 i 1) 61 s (nI i)) 59 s bd) 48 s 2) 58 s tt) 60 s 1) 31 2 v0) 31 72 v1) 83 i pd) ρ s i 2 tt 1 pd nt ∧ (∀ b y, TwR b y → ¬ ((b = 82 ∧ y = i) ∨ (b = 61 ∧ y = s) ∨ (b = 59 ∧ y = s) ∨ (b = 48 ∧ y = s) ∨ (b = 58 ∧ y = s) ∨ (b = 60 ∧ y = s) ∨ (b = 31 ∧ y = 2) ∨ (b = 31 ∧ y = 72) ∨ (b = 83 ∧ y = i)) → zI (sI (sI (sI (sI (sI (sI (sI (sI (sI M2 82 i 1) 61 s (nI i)) 59 s bd) 48 s 2) 58 s tt) 60 s 1) 31 2 v0) 31 72 v1) 83 i pd) b y = ρ b y) ∧ (∀ b y, ¬ (31 ≤ b ∧ b < 88) → zI (sI (sI (sI (sI (sI (sI (sI (sI (sI M2 82 i 1) 61 s (nI i)) 59 s bd) 48 s 2) 58 s tt) 60 s 1) 31 2 v0) 31 72 v1) 83 i pd) b y = zI M2 b y) ∧ zI (sI (sI (sI (sI (sI (sI (sI (sI (sI M2 82 i 1) 61 s (nI i)) 59 s bd) 48 s 2) 58 s tt) 60 s 1) 31 2 v0) 31 72 v1) 83 i pd) 31 2 = v0 ∧ zI (sI (sI (sI (sI (sI (sI (sI (sI (sI M2 82 i 1) 61 s (nI i)) 59 s bd) 48 s 2) 58 s tt) 60 s 1) 31 2 v0) 31 72 v1) 83 i pd) 31 72 = v1 := by
  have R3 : ∀ b y, 31 ≤ b → b < 88 → b ≠ 72 → b ≠ 73 → (b = 31 → y < 76) → zI M2 b y = ρ b y := fun b y a1 a2 a3 a4 a5 => R2 b y ⟨a1, a2, a3, a4, a5⟩
  refine ⟨⟨?_, ?_, ?_, ?_, ?_, fun b g1 g2 g3 g4 g5 g6 g7 => ?_, ?_, ?_, ?_, fun b g1 g2 => ?_, fun y g1 => ?_⟩, fun b y h h' => ?_, fun b y h => ?_, ?_, ?_⟩
  · simp (disch := omega) only [zI_sA, zI_no, zI_eq, zA_sI, zA_no, zA_eq, R3]
  · simp (disch := omega) only [zI_sA, zI_no, zI_eq, zA_sI, zA_no, zA_eq, R3]
  · simp (disch := omega) only [zI_sA, zI_no, zI_eq, zA_sI, zA_no, zA_eq, R3]
    exact ebd
  · simp (disch := omega) only [zI_sA, zI_no, zI_eq, zA_sI, zA_no, zA_eq, R3]
  · simp (disch := omega) only [zI_sA, zI_no, zI_eq, zA_sI, zA_no, zA_eq, R3]
  · simp (disch := omega) only [zI_sA, zI_no, zI_eq, zA_sI, zA_no, zA_eq, R3]
  · simp (disch := omega) only [zI_sA, zI_no, zI_eq, zA_sI, zA_no, zA_eq, R3]
  · simp (disch := omega) only [zI_sA, zI_no, zI_eq, zA_sI, zA_no, zA_eq, R3]
  · simp (disch := omega) only [zI_sA, zI_no, zI_eq, zA_sI, zA_no, zA_eq, R3]
    exact en
  · simp (disch := omega) only [zI_sA, zI_no, zI_eq, zA_sI, zA_no, zA_eq, R3]
  · simp (disch := omega) only [zI_sA, zI_no, zI_eq, zA_sI, zA_no, zA_eq, R3]
  · obtain ⟨a1, a2, a3, a4, a5⟩ := h
    simp (disch := omega) only [zI_sA, zI_no, zI_eq, zA_sI, zA_no, zA_eq, R3]
  · simp (disch := omega) only [zI_sA, zI_no, zI_eq, zA_sI, zA_no, zA_eq, R3]
  · simp (disch := omega) only [zI_sA, zI_no, zI_eq, zA_sI, zA_no, zA_eq, R3]
  · simp (disch := omega) only [zI_sA, zI_no, zI_eq, zA_sI, zA_no, zA_eq, R3]

/-! Runs of several instructions. -/
def zJ (F : List zV → zS → zR) (st : List zV) (v : Option zV) (S : zS) : zR := F (zpush v st) S
def zV0 (F : zS → zR) (v : Option zV) (S : zS) : zR := zvoid v (F S)
def zEx (e : Nat) (S : zS) : zR := some (.inr e, S)
noncomputable def zD (d : Nat) : Nat → List zV → zS → zR := zcallE zTv zMv d
def zstN (T : Nat → zE) (K : Nat → List zV → zS → zR) (hs : List (Nat × Nat × Nat × Nat)) (rt : Nat) : Nat → zC → zC
  | 0, k => k
  | n + 1, k => fun pc ls st S => zstep K hs rt (T pc).1 (T pc).2.1 (T pc).2.2.2.1 (T pc).2.2.2.2.1 (T pc).2.2.2.2.2 pc (zmask (T pc).2.2.1 ls) st S (zstN T K hs rt n k)
theorem zE0_n {T : Nat → zE} {K : Nat → List zV → zS → zR} (hK : zgood K) {hs : List (Nat × Nat × Nat × Nat)} {rt : Nat} : ∀ (n pc : Nat) (ls st : List zV) (S : zS), zE0 T K hs rt pc ls st S = zstN T K hs rt n (zE0 T K hs rt) pc ls st S
  | 0, _, _, _, _ => rfl
  | n + 1, pc, ls, st, S => by
    rw [zE0_step hK]
    have e : zE0 T K hs rt = zstN T K hs rt n (zE0 T K hs rt) := by
      funext pc ls st S
      exact zE0_n hK n pc ls st S
    show zstep K hs rt _ _ _ _ _ pc _ st S (zE0 T K hs rt) = zstep K hs rt _ _ _ _ _ pc _ st S (zstN T K hs rt n (zE0 T K hs rt))
    rw [← e]
/-- the machine itself: the class and its law, without the shadow -/
noncomputable def zDr (d : Nat) : Nat → List zV → zS → zR := zcallE zTt zMt d

set_option maxHeartbeats 1000000 in
theorem zstep_at {K : Nat → List zV → zS → zR} (hK : zgood K) {hs : List (Nat × Nat × Nat × Nat)} {rt : Nat} {ins : Instr} {n a b c pc : Nat} {ls st : List zV} {S : zS} {k : zC} {r : zO × zS} (h : zstep K hs rt ins n a b c pc ls st S k = some r) :
    zat S k r (fun k => zstep K hs rt ins n a b c pc ls st S k) := by
  cases ins with
  | iconst i => exact zat.k _ _ _ (zmono.rf S) h fun k' h' => h'
  | bipush i => exact zat.k _ _ _ (zmono.rf S) h fun k' h' => h'
  | sipush i => exact zat.k _ _ _ (zmono.rf S) h fun k' h' => h'
  | lconst i => exact zat.k _ _ _ (zmono.rf S) h fun k' h' => h'
  | ldc i => exact zat.k _ _ _ (zmono.rf S) h fun k' h' => h'
  | ldc_w i => exact zat.k _ _ _ (zmono.rf S) h fun k' h' => h'
  | ldc2_w i => exact zat.k _ _ _ (zmono.rf S) h fun k' h' => h'
  | aconst_null => exact zat.k _ _ _ (zmono.rf S) h fun k' h' => h'
  | getstatic i => exact zat.k _ _ _ (zmono.rf S) h fun k' h' => h'
  | goto o => exact zat.k _ _ _ (zmono.rf S) h fun k' h' => h'
  | iload_n i =>
    simp only [zstep] at h
    obtain ⟨v, e, h⟩ := zld_inv h
    exact zat.k _ _ _ (zmono.rf S) h fun k' h' => by simp only [zstep, zldi, e]; exact h'
  | iload i =>
    simp only [zstep] at h
    obtain ⟨v, e, h⟩ := zld_inv h
    exact zat.k _ _ _ (zmono.rf S) h fun k' h' => by simp only [zstep, zldi, e]; exact h'
  | lload_n i =>
    simp only [zstep] at h
    obtain ⟨v, e, h⟩ := zldl_inv h
    exact zat.k _ _ _ (zmono.rf S) h fun k' h' => by simp only [zstep, zldl, e]; exact h'
  | lload i =>
    simp only [zstep] at h
    obtain ⟨v, e, h⟩ := zldl_inv h
    exact zat.k _ _ _ (zmono.rf S) h fun k' h' => by simp only [zstep, zldl, e]; exact h'
  | aload_n i =>
    simp only [zstep] at h
    obtain ⟨v, e, h⟩ := zlda_inv h
    exact zat.k _ _ _ (zmono.rf S) h fun k' h' => by simp only [zstep, zlda, e]; exact h'
  | aload i =>
    simp only [zstep] at h
    obtain ⟨v, e, h⟩ := zlda_inv h
    exact zat.k _ _ _ (zmono.rf S) h fun k' h' => by simp only [zstep, zlda, e]; exact h'
  | istore_n i =>
    simp only [zstep] at h
    obtain ⟨v, t, rfl, h⟩ := zsti_inv h
    exact zat.k _ _ _ (zmono.rf S) h fun k' h' => h'
  | istore i =>
    simp only [zstep] at h
    obtain ⟨v, t, rfl, h⟩ := zsti_inv h
    exact zat.k _ _ _ (zmono.rf S) h fun k' h' => h'
  | lstore_n i =>
    simp only [zstep] at h
    obtain ⟨v, t, rfl, h⟩ := zstl_inv h
    exact zat.k _ _ _ (zmono.rf S) h fun k' h' => h'
  | lstore i =>
    simp only [zstep] at h
    obtain ⟨v, t, rfl, h⟩ := zstl_inv h
    exact zat.k _ _ _ (zmono.rf S) h fun k' h' => h'
  | astore_n i =>
    simp only [zstep] at h
    obtain ⟨v, t, rfl, h⟩ := zsta_inv h
    exact zat.k _ _ _ (zmono.rf S) h fun k' h' => h'
  | astore i =>
    simp only [zstep] at h
    obtain ⟨v, t, rfl, h⟩ := zsta_inv h
    exact zat.k _ _ _ (zmono.rf S) h fun k' h' => h'
  | iadd =>
    simp only [zstep] at h
    obtain ⟨x, y, t, rfl, h⟩ := zii_inv h
    exact zat.k _ _ _ (zmono.rf S) h fun k' h' => h'
  | isub =>
    simp only [zstep] at h
    obtain ⟨x, y, t, rfl, h⟩ := zii_inv h
    exact zat.k _ _ _ (zmono.rf S) h fun k' h' => h'
  | imul =>
    simp only [zstep] at h
    obtain ⟨x, y, t, rfl, h⟩ := zii_inv h
    exact zat.k _ _ _ (zmono.rf S) h fun k' h' => h'
  | iand =>
    simp only [zstep] at h
    obtain ⟨x, y, t, rfl, h⟩ := zii_inv h
    exact zat.k _ _ _ (zmono.rf S) h fun k' h' => h'
  | ior =>
    simp only [zstep] at h
    obtain ⟨x, y, t, rfl, h⟩ := zii_inv h
    exact zat.k _ _ _ (zmono.rf S) h fun k' h' => h'
  | ixor =>
    simp only [zstep] at h
    obtain ⟨x, y, t, rfl, h⟩ := zii_inv h
    exact zat.k _ _ _ (zmono.rf S) h fun k' h' => h'
  | ishl =>
    simp only [zstep] at h
    obtain ⟨x, y, t, rfl, h⟩ := zii_inv h
    exact zat.k _ _ _ (zmono.rf S) h fun k' h' => h'
  | ishr =>
    simp only [zstep] at h
    obtain ⟨x, y, t, rfl, h⟩ := zii_inv h
    exact zat.k _ _ _ (zmono.rf S) h fun k' h' => h'
  | iushr =>
    simp only [zstep] at h
    obtain ⟨x, y, t, rfl, h⟩ := zii_inv h
    exact zat.k _ _ _ (zmono.rf S) h fun k' h' => h'
  | ladd =>
    simp only [zstep] at h
    obtain ⟨x, y, t, rfl, h⟩ := zll_inv h
    exact zat.k _ _ _ (zmono.rf S) h fun k' h' => h'
  | lsub =>
    simp only [zstep] at h
    obtain ⟨x, y, t, rfl, h⟩ := zll_inv h
    exact zat.k _ _ _ (zmono.rf S) h fun k' h' => h'
  | lmul =>
    simp only [zstep] at h
    obtain ⟨x, y, t, rfl, h⟩ := zll_inv h
    exact zat.k _ _ _ (zmono.rf S) h fun k' h' => h'
  | land =>
    simp only [zstep] at h
    obtain ⟨x, y, t, rfl, h⟩ := zll_inv h
    exact zat.k _ _ _ (zmono.rf S) h fun k' h' => h'
  | lor =>
    simp only [zstep] at h
    obtain ⟨x, y, t, rfl, h⟩ := zll_inv h
    exact zat.k _ _ _ (zmono.rf S) h fun k' h' => h'
  | lxor =>
    simp only [zstep] at h
    obtain ⟨x, y, t, rfl, h⟩ := zll_inv h
    exact zat.k _ _ _ (zmono.rf S) h fun k' h' => h'
  | lshl =>
    simp only [zstep] at h
    obtain ⟨x, y, t, rfl, h⟩ := zli_inv h
    exact zat.k _ _ _ (zmono.rf S) h fun k' h' => h'
  | lshr =>
    simp only [zstep] at h
    obtain ⟨x, y, t, rfl, h⟩ := zli_inv h
    exact zat.k _ _ _ (zmono.rf S) h fun k' h' => h'
  | lushr =>
    simp only [zstep] at h
    obtain ⟨x, y, t, rfl, h⟩ := zli_inv h
    exact zat.k _ _ _ (zmono.rf S) h fun k' h' => h'
  | i2l =>
    simp only [zstep] at h
    obtain ⟨x, t, rfl, h⟩ := zone_inv h
    exact zat.k _ _ _ (zmono.rf S) h fun k' h' => h'
  | i2c =>
    simp only [zstep] at h
    obtain ⟨x, t, rfl, h⟩ := zone_inv h
    exact zat.k _ _ _ (zmono.rf S) h fun k' h' => h'
  | i2b =>
    simp only [zstep] at h
    obtain ⟨x, t, rfl, h⟩ := zone_inv h
    exact zat.k _ _ _ (zmono.rf S) h fun k' h' => h'
  | l2i =>
    simp only [zstep] at h
    obtain ⟨x, t, rfl, h⟩ := zoneL_inv h
    exact zat.k _ _ _ (zmono.rf S) h fun k' h' => h'
  | iinc i d =>
    simp only [zstep] at h
    split at h
    · rename_i e
      exact zat.k _ _ _ (zmono.rf S) h fun k' h' => by simp only [zstep, e]; exact h'
    · cases h
  | idiv =>
    simp only [zstep] at h
    split at h
    · obtain ⟨hc, h⟩ := zchk_inv h
      exact zat.k _ _ _ (zmono.rf S) h fun k' h' => by simp only [zstep]; rw [zchk_pos hc]; exact h'
    · cases h
  | irem =>
    simp only [zstep] at h
    split at h
    · obtain ⟨hc, h⟩ := zchk_inv h
      exact zat.k _ _ _ (zmono.rf S) h fun k' h' => by simp only [zstep]; rw [zchk_pos hc]; exact h'
    · cases h
  | lcmp =>
    simp only [zstep] at h
    split at h
    all_goals first
      | exact zat.k _ _ _ (zmono.rf S) h fun k' h' => h'
      | cases h
  | dup =>
    simp only [zstep] at h
    split at h
    all_goals first
      | exact zat.k _ _ _ (zmono.rf S) h fun k' h' => h'
      | cases h
  | dup2 =>
    simp only [zstep] at h
    split at h
    all_goals first
      | exact zat.k _ _ _ (zmono.rf S) h fun k' h' => h'
      | cases h
  | pop =>
    simp only [zstep] at h
    split at h
    all_goals first
      | exact zat.k _ _ _ (zmono.rf S) h fun k' h' => h'
      | cases h
  | tableswitch d lo hi o =>
    simp only [zstep] at h
    split at h
    all_goals first
      | exact zat.k _ _ _ (zmono.rf S) h fun k' h' => h'
      | cases h
  | lookupswitch d ps =>
    simp only [zstep] at h
    split at h
    all_goals first
      | exact zat.k _ _ _ (zmono.rf S) h fun k' h' => h'
      | cases h
  | ifCond cd o =>
    simp only [zstep] at h
    split at h
    · exact zif_at (zmono.rf S) h
    · cases h
  | if_icmp cd o =>
    simp only [zstep] at h
    split at h
    · exact zif_at (zmono.rf S) h
    · cases h
  | ifnonnull o =>
    simp only [zstep] at h
    split at h
    · split at h
      · rename_i hc
        exact zat.k _ _ _ (zmono.rf S) h fun k' h' => by simp only [zstep, hc, if_true]; exact h'
      · rename_i hc
        exact zat.k _ _ _ (zmono.rf S) h fun k' h' => by simp only [zstep, hc, if_false]; exact h'
    · cases h
  | if_acmp cd o =>
    cases cd with
    | eq => cases h
    | ne =>
      simp only [zstep] at h
      split at h
      · obtain ⟨hq, h⟩ := zchk_inv h
        split at h
        · rename_i hc
          exact zat.k _ _ _ (zmono.rf S) h fun k' h' => by simp only [zstep]; rw [zchk_pos hq, if_pos hc]; exact h'
        · rename_i hc
          exact zat.k _ _ _ (zmono.rf S) h fun k' h' => by simp only [zstep]; rw [zchk_pos hq, if_neg hc]; exact h'
      · cases h
  | iaload =>
    simp only [zstep] at h
    obtain ⟨j, x, rr, rfl, h1, h2, h3, h⟩ := zald_inv h
    exact zat.k _ _ _ (zmono.rf S) h fun k' h' => by simp only [zstep, zald]; rw [zchk_pos ⟨h1, h2, h3⟩]; exact h'
  | laload =>
    simp only [zstep] at h
    obtain ⟨j, x, rr, rfl, h1, h2, h3, h⟩ := zald_inv h
    exact zat.k _ _ _ (zmono.rf S) h fun k' h' => by simp only [zstep, zald]; rw [zchk_pos ⟨h1, h2, h3⟩]; exact h'
  | caload =>
    simp only [zstep] at h
    obtain ⟨j, x, rr, rfl, h1, h2, h3, h⟩ := zald_inv h
    exact zat.k _ _ _ (zmono.rf S) h fun k' h' => by simp only [zstep, zald]; rw [zchk_pos ⟨h1, h2, h3⟩]; exact h'
  | baload =>
    simp only [zstep] at h
    obtain ⟨j, x, rr, rfl, h1, h2, h3, h⟩ := zald_inv h
    exact zat.k _ _ _ (zmono.rf S) h fun k' h' => by simp only [zstep, zald]; rw [zchk_pos ⟨h1, h2, h3⟩]; exact h'
  | aaload =>
    simp only [zstep] at h
    obtain ⟨j, x, rr, rfl, h1, h2, h3, h⟩ := zald_inv h
    exact zat.k _ _ _ (zmono.rf S) h fun k' h' => by simp only [zstep, zald]; rw [zchk_pos ⟨h1, h2, h3⟩]; exact h'
  | iastore =>
    simp only [zstep] at h
    split at h
    · obtain ⟨hc, h⟩ := zchk_inv h
      exact zat.k _ _ _ (zmono_put _ _ _ _) h fun k' h' => by simp only [zstep]; rw [zchk_pos hc]; exact h'
    · cases h
  | lastore =>
    simp only [zstep] at h
    split at h
    · obtain ⟨hc, h⟩ := zchk_inv h
      exact zat.k _ _ _ (zmono_put _ _ _ _) h fun k' h' => by simp only [zstep]; rw [zchk_pos hc]; exact h'
    · cases h
  | castore =>
    simp only [zstep] at h
    split at h
    · obtain ⟨hc, h⟩ := zchk_inv h
      exact zat.k _ _ _ (zmono_put _ _ _ _) h fun k' h' => by simp only [zstep]; rw [zchk_pos hc]; exact h'
    · cases h
  | aastore =>
    simp only [zstep] at h
    split at h
    · obtain ⟨hc, h⟩ := zchk_inv h
      exact zat.k _ _ _ (zmono_put _ _ _ _) h fun k' h' => by simp only [zstep]; rw [zchk_pos hc]; exact h'
    · cases h
  | bastore =>
    simp only [zstep] at h
    split at h
    · split at h
      all_goals
        obtain ⟨hc, h⟩ := zchk_inv h
        refine zat.k _ _ _ (zmono_put _ _ _ _) h fun k' h' => ?_
        simp only [zstep]
        rw [zchk_pos hc]; exact h'
    · cases h
  | arraylength =>
    simp only [zstep] at h
    split at h
    · obtain ⟨hc, h⟩ := zchk_inv h
      exact zat.k _ _ _ (zmono.rf S) h fun k' h' => by simp only [zstep]; rw [zchk_pos hc]; exact h'
    · cases h
  | getfield i =>
    simp only [zstep] at h
    split at h
    · obtain ⟨hc, h⟩ := zchk_inv h
      exact zat.k _ _ _ (zmono.rf S) h fun k' h' => by simp only [zstep]; rw [zchk_pos hc]; exact h'
    · cases h
  | putfield i =>
    simp only [zstep] at h
    split at h
    · obtain ⟨hc, h⟩ := zchk_inv h
      obtain ⟨z, hz, h⟩ := zputf_inv h
      exact zat.k _ _ _ (zmono_put _ _ _ _) h fun k' h' => by simp only [zstep]; rw [zchk_pos hc, zputf_of hz]; exact h'
    · cases h
  | new i =>
    simp only [zstep] at h
    split at h
    · exact zat.k _ _ _ (zmono_alloc _ _ _ _) h fun k' h' => h'
    · obtain ⟨hc, h⟩ := bif_inv h
      cases h
      refine Or.inl ⟨zmono_bump S, fun k' => ?_⟩
      simp only [zstep, hc]
      rfl
  | newarray t =>
    simp only [zstep] at h
    split at h
    · obtain ⟨hc, h⟩ := zchk_inv h
      exact zat.k _ _ _ (zmono_alloc _ _ _ _) h fun k' h' => by simp only [zstep]; rw [zchk_pos hc]; exact h'
    · cases h
  | anewarray i =>
    simp only [zstep] at h
    split at h
    · obtain ⟨hc, h⟩ := zchk_inv h
      exact zat.k _ _ _ (zmono_alloc _ _ _ _) h fun k' h' => by simp only [zstep]; rw [zchk_pos hc]; exact h'
    · cases h
  | multianewarray i d =>
    simp only [zstep] at h
    split at h
    · obtain ⟨hc, h⟩ := zchk_inv h
      exact zat.k _ _ _ (zmono_multi _ _ _ _ _) h fun k' h' => by simp only [zstep]; rw [zchk_pos hc]; exact h'
    · cases h
  | invokestatic i =>
    simp only [zstep] at h
    split at h
    · obtain ⟨hc, h⟩ := bif_inv h
      rcases zcall_inv h with ⟨v, S1, e, h⟩ | ⟨x, S1, e, h⟩
      · refine zat.k _ _ _ (hK _ _ _ _ _ e) h fun k' h' => ?_
        simp only [zstep, hc, e, zcall]; exact h'
      · rcases zthr_at (hK _ _ _ _ _ e) h with ⟨h1, h2⟩ | ⟨p, l, t, S2, h1, h2, h3⟩
        · exact Or.inl ⟨h1, fun k' => by simp only [zstep, hc, e, zcall]; exact h2 k'⟩
        · exact Or.inr ⟨p, l, t, S2, h1, h2, fun k' h' => by simp only [zstep, hc, e, zcall]; exact h3 k' h'⟩
    · obtain ⟨hc, h⟩ := bif_inv h
      obtain ⟨v, S1, e, h⟩ := zretn_inv h
      refine zat.k _ _ _ (hK _ _ _ _ _ e) h fun k' h' => ?_
      simp only [zstep, hc, e, zretn]; exact h'
    · obtain ⟨x, y, t, rfl, hc, h⟩ := zmm_inv h
      refine zat.k _ _ _ (zmono.rf S) h fun k' h' => ?_
      simp only [zstep, zmm, Nat.ble_eq_true_of_le hc]; exact h'
    · obtain ⟨x, y, t, rfl, hc, h⟩ := zmm_inv h
      refine zat.k _ _ _ (zmono.rf S) h fun k' h' => ?_
      simp only [zstep, zmm, Nat.ble_eq_true_of_le hc]; exact h'
    · rename_i q0 q1 q2 q3
      obtain ⟨x, y, t, rfl, hc, h⟩ := zml_inv h
      refine zat.k _ _ _ (zmono.rf S) h fun k' h' => ?_
      simp only [zstep, zml, Nat.ble_eq_true_of_le hc]; exact h'
  | invokevirtual i =>
    simp only [zstep] at h
    split at h
    · rename_i hd
      obtain ⟨hc, h⟩ := bif_inv h
      obtain ⟨hq, h⟩ := zchk_inv h
      rcases zcall_inv h with ⟨v, S1, e, h⟩ | ⟨x, S1, e, h⟩
      · refine zat.k _ _ _ (hK _ _ _ _ _ e) h fun k' h' => ?_
        simp only [zstep, hd, hc, zchk_pos hq, e, zcall]; exact h'
      · rcases zthr_at (hK _ _ _ _ _ e) h with ⟨h1, h2⟩ | ⟨p, l, t, S2, h1, h2, h3⟩
        · exact Or.inl ⟨h1, fun k' => by simp only [zstep, hd, hc, zchk_pos hq, e, zcall]; exact h2 k'⟩
        · exact Or.inr ⟨p, l, t, S2, h1, h2, fun k' h' => by simp only [zstep, hd, hc, zchk_pos hq, e, zcall]; exact h3 k' h'⟩
    · cases h
  | invokespecial i =>
    simp only [zstep] at h
    split at h
    · split at h
      · obtain ⟨hc, h⟩ := bif_inv h
        obtain ⟨hq, h⟩ := zchk_inv h
        exact zat.k _ _ _ (zmono.rf S) h fun k' h' => by simp only [zstep, hc, zchk_pos hq]; exact h'
      · cases h
    · split at h
      · rename_i hd
        obtain ⟨hc, h⟩ := bif_inv h
        obtain ⟨hq, h⟩ := zchk_inv h
        obtain ⟨v, S1, e, h⟩ := zretn_inv h
        obtain ⟨rfl, h⟩ := zvoid_inv h
        refine zat.k _ _ _ (hK _ _ _ _ _ e) h fun k' h' => ?_
        simp only [zstep, hd, hc, zchk_pos hq, e, zretn, zvoid]; exact h'
      · cases h
  | ireturn =>
    simp only [zstep] at h
    split at h
    · obtain ⟨h, h1, h2, h3⟩ := zrng_inv h
      cases h
      refine Or.inl ⟨zmono.rf S, fun k' => ?_⟩
      simp only [zstep, zrng]
      split
      · exact zchk_pos (h1 rfl)
      · exact zchk_pos (h2 rfl)
      · exact zchk_pos (h3 rfl)
      · rfl
    · cases h
  | lreturn =>
    simp only [zstep] at h
    split at h
    · cases h
      exact Or.inl ⟨zmono.rf S, fun k' => rfl⟩
    · cases h
  | areturn =>
    simp only [zstep] at h
    split at h
    · cases h
      exact Or.inl ⟨zmono.rf S, fun k' => rfl⟩
    · cases h
  | return_ =>
    simp only [zstep] at h
    split at h
    · cases h
      exact Or.inl ⟨zmono.rf S, fun k' => rfl⟩
    · cases h
  | _ => cases (show (none : zR) = some r from h)

/-- more fuel, the same result -/
theorem zrun_add {T : Nat → zE} {K : Nat → List zV → zS → zR} (hK : zgood K) {hs : List (Nat × Nat × Nat × Nat)} {rt : Nat} : ∀ (f : Nat) (pc : Nat) (ls st : List zV) (S : zS) (r : zO × zS), zrun T K hs rt f pc ls st S = some r → ∀ g, f ≤ g → zrun T K hs rt g pc ls st S = some r
  | 0, _, _, _, _, _, h, _, _ => by cases h
  | f + 1, pc, ls, st, S, r, h, g, hg => by
    obtain ⟨g, rfl⟩ : ∃ g', g = g' + 1 := ⟨g - 1, by omega⟩
    simp only [zrun] at h ⊢
    rcases zstep_at hK h with ⟨-, h1⟩ | ⟨p, l, t, S1, -, h2, h3⟩
    · exact h1 _
    · exact h3 _ (zrun_add hK f p l t S1 r h2 g (by omega))
theorem zrun_mono {T : Nat → zE} {K : Nat → List zV → zS → zR} (hK : zgood K) {hs : List (Nat × Nat × Nat × Nat)} {rt : Nat} : ∀ (f : Nat) (pc : Nat) (ls st : List zV) (S : zS) (r : zO × zS), zrun T K hs rt f pc ls st S = some r → zmono S r.2
  | 0, _, _, _, _, _, h => by cases h
  | f + 1, pc, ls, st, S, r, h => by
    simp only [zrun] at h
    rcases zstep_at hK h with ⟨h1, -⟩ | ⟨p, l, t, S1, h1, h2, -⟩
    · exact h1
    · exact h1.tr (zrun_mono hK f p l t S1 r h2)
/-- the run as a whole: what some fuel gives -/
noncomputable def zE0 (T : Nat → zE) (K : Nat → List zV → zS → zR) (hs : List (Nat × Nat × Nat × Nat)) (rt : Nat) : zC := fun pc ls st S =>
  @dite zR (∃ (f : Nat) (r : zO × zS), zrun T K hs rt f pc ls st S = some r) (Classical.propDecidable _) (fun h => some (Classical.choose (Classical.choose_spec h))) (fun _ => none)
theorem zE0_iff {T : Nat → zE} {K : Nat → List zV → zS → zR} (hK : zgood K) {hs : List (Nat × Nat × Nat × Nat)} {rt : Nat} {pc : Nat} {ls st : List zV} {S : zS} {r : zO × zS} : zE0 T K hs rt pc ls st S = some r ↔ ∃ f, zrun T K hs rt f pc ls st S = some r := by
  unfold zE0
  constructor
  · intro h
    split at h
    · rename_i hx
      have := Classical.choose_spec (Classical.choose_spec hx)
      rw [Option.some.inj h] at this
      exact ⟨_, this⟩
    · cases h
  · rintro ⟨f, h⟩
    have hx : ∃ (f : Nat) (r : zO × zS), zrun T K hs rt f pc ls st S = some r := ⟨f, r, h⟩
    rw [dif_pos hx]
    have h2 := Classical.choose_spec (Classical.choose_spec hx)
    have h3 := zrun_add hK _ _ _ _ _ _ h2 (max (Classical.choose hx) f) (Nat.le_max_left _ _)
    have h4 := zrun_add hK _ _ _ _ _ _ h (max (Classical.choose hx) f) (Nat.le_max_right _ _)
    rw [h3] at h4
    exact h4
/-- one instruction of the run as a whole -/
theorem zE0_step {T : Nat → zE} {K : Nat → List zV → zS → zR} (hK : zgood K) {hs : List (Nat × Nat × Nat × Nat)} {rt : Nat} (pc : Nat) (ls st : List zV) (S : zS) :
    zE0 T K hs rt pc ls st S = zstep K hs rt (T pc).1 (T pc).2.1 (T pc).2.2.2.1 (T pc).2.2.2.2.1 (T pc).2.2.2.2.2 pc (zmask (T pc).2.2.1 ls) st S (zE0 T K hs rt) := by
  apply Option.ext
  intro r
  rw [zE0_iff hK]
  constructor
  · rintro ⟨f, h⟩
    cases f with
    | zero => cases h
    | succ f =>
      simp only [zrun] at h
      rcases zstep_at hK h with ⟨-, h1⟩ | ⟨p, l, t, S1, -, h2, h3⟩
      · exact h1 _
      · exact h3 _ ((zE0_iff hK).mpr ⟨f, h2⟩)
  · intro h
    rcases zstep_at hK h with ⟨-, h1⟩ | ⟨p, l, t, S1, -, h2, h3⟩
    · exact ⟨1, by simp only [zrun]; exact h1 _⟩
    · obtain ⟨f, h2⟩ := (zE0_iff hK).mp h2
      exact ⟨f + 1, by simp only [zrun]; exact h3 _ h2⟩

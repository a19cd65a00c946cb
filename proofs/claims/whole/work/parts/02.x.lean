section
variable {c : Nat} {g : Int32} {p nd yl : Nat → Int32}
theorem ax_isFact {post : Int32 → Prop} {x : Int32} (h1 : ag_F x → post 1) (h0 : ¬ ag_F x → post 0) : wpX_isFact post x := by
  refine br_c (fun h => h0 ?_) (fun h => br_c (fun h2 => h0 ?_) (fun h2 => h1 ?_))
  · rintro ⟨j, hj, e⟩
    rw [e] at h
    exact nI_pos (by omega) h
  · rintro ⟨j, hj, e⟩
    rw [e] at h2
    exact ag_ge12 hj h2
  · obtain ⟨j, hj, e⟩ := nI_of h
    rw [e, ← ag_l12, nI_leI (by omega) hj] at h2
    exact ⟨j, by omega, e⟩
theorem ax_isSubset {post : Int32 → Prop} {a b : Int32} (h1 : b &&& a = a → post 1) (h0 : ¬ b &&& a = a → post 0) : wpX_isSubset post a b :=
  br_c (fun h => h1 ((ag_A a b).mp h)) (fun h => h0 (fun t => h ((ag_A a b).mpr t)))
theorem ax_sub {post : Int32 → Prop} {a b : Int32} (h1 : a &&& b = a → post 1) (h0 : ¬ a &&& b = a → post 0) : wpX_isSubset post a b :=
  ax_isSubset (fun h => h1 (by rw [Int32.and_comm]; exact h)) (fun h => h0 (fun t => h (by rw [Int32.and_comm]; exact t)))
theorem ax_has {post : Int32 → Prop} {s f : Int32} (h1 : ag_has s f = true → post 1) (h0 : ag_has s f = false → post 0) : wpX_has post s f :=
  br_c (fun h => h1 (decide_eq_true h)) (fun h => h0 (decide_eq_false h))
theorem ax_given {post : Int32 → Prop} (h : post (ag_gv p)) : wpX_given post (nI c, g, p, nd, yl) :=
  ag_loop (fun n i s => wX_given_4 post (nI c) g p nd yl n s (nI i)) (fun f s => if p f = 0 then s else s ||| ((1 : Int32) <<< (nI f &&& 31))) 12 0
    (fun n => br_t ag_le12 h)
    (fun n i s hi _ k => br_f (ag_ge12 hi) ⟨vp_in_nI hi (by decide), by
      have e := ag_cl p (show i < 4096 by omega)
      by_cases z : p i = 0
      · exact br_t (e.trans z) (nm_r (nI_1 i) (k _ (if_pos z)))
      · exact br_f (fun t => z (e.symm.trans t)) (nm_e (nm_r (nI_1 i) (k _ (if_neg z))))⟩)
theorem ax_sizeOf {post : Int32 → Prop} {s : Int32} (h : post (ag_sz s)) : wpX_sizeOf post s :=
  ag_loop (fun n i z => wX_sizeOf_4 post s n z (nI i)) (fun f z => if ag_has s (nI f) = true then z + 1 else z) 12 0
    (fun n => br_t ag_le12 h)
    (fun n i z hi _ k => br_f (ag_ge12 hi) (ax_has
      (fun b => ag_y (nm_e (nm_r (nI_1 i) (k _ (if_pos b)))))
      (fun b => ag_n (nm_r (nI_1 i) (k _ (if_neg (ag_ff b)))))))
theorem ax_givenCount {post : Int32 → Prop} (h : post (nI (ag_cn p 12))) : wpX_givenCount post (nI c, g, p, nd, yl) := by
  unfold wpX_givenCount
  try dsimp only
  refine ax_given (ax_sizeOf ?_)
  rw [ag_szg]
  exact h
theorem ax_costOf {post : Int32 → Prop} {s : Int32} (h : post (ag_cost p s)) : wpX_costOf post (nI c, g, p, nd, yl) s :=
  ag_loop (fun n i z => wX_costOf_4 post s (nI c) g p nd yl n z (nI i)) (fun f z => if ag_has s (nI f) = true then z + p f else z) 12 0
    (fun n => br_t ag_le12 h)
    (fun n i z hi _ k => br_f (ag_ge12 hi) (ax_has
      (fun b => ag_y ⟨vp_in_nI hi (by decide), nm_r (e' := z + p i) (by rw [ag_cl p (show i < 4096 by omega)]) (nm_r (nI_1 i) (k _ (if_pos b)))⟩)
      (fun b => ag_n (nm_r (nI_1 i) (k _ (if_neg (ag_ff b)))))))
theorem ax_inner (hc : c ≤ 14) {post : Int32 → Prop} {J4 : Int32 → Int32 → Prop} {x3 x4 s : Int32} (h : wX_reachedFrom_64 post J4 (ag_rd c nd yl s) x3 x4 (nI c) g p nd yl) : ∃ n, wX_reachedFrom_16 post J4 x3 x4 (nI c) g p nd yl n s 0 :=
  ag_loop (fun n i s => wX_reachedFrom_16 post J4 x3 x4 (nI c) g p nd yl n s (nI i)) (fun r s => if s &&& nd r = nd r then s ||| ((1 : Int32) <<< (yl r &&& 31)) else s) c s
    (fun n => br_t (nI_le (Nat.le_refl c) (by omega)) h)
    (fun n i s hi _ k => br_f (nI_ge hi (by omega)) (br_f (ag_ge14 (by omega)) ⟨vp_in_nI (by omega) (by decide), by
      rw [ag_cl nd (show i < 4096 by omega), ag_cl yl (show i < 4096 by omega)]
      exact ax_isSubset
        (fun b => ag_y ⟨vp_in_nI (by omega) (by decide), nm_e (nm_r (nI_1 i) (k _ (if_pos b)))⟩)
        (fun b => ag_n (nm_r (nI_1 i) (k _ (if_neg b))))⟩))
theorem ax_reachedFrom (hc : c ≤ 14) {post : Int32 → Prop} {s : Int32} (h : post (ag_rc c nd yl s)) : wpX_reachedFrom post (nI c, g, p, nd, yl) s :=
  ag_loop (fun n i t => wX_reachedFrom_4 post (nI c) g p nd yl n t (nI i)) (fun _ => ag_rd c nd yl) 12 s
    (fun n => br_t ag_le12 h)
    (fun n i t hi e k => br_f (ag_ge12 hi) (ax_inner hc (br_c
      (fun q => by
        have f := ag_fix (ag_rd c nd yl) s i (by rw [← e]; exact q) 12 (by omega)
        have f2 : ag_rc c nd yl s = t := f.trans e.symm
        rw [q, ← f2]
        exact h)
      (fun q => nm_r (nI_1 i) (k _ rfl)))))
theorem ax_reachesGoal (hc : c ≤ 14) {post : Int32 → Prop} {s : Int32} (h1 : ag_sup c g nd yl s = true → post 1) (h0 : ag_sup c g nd yl s = false → post 0) : wpX_reachesGoal post (nI c, g, p, nd, yl) s := by
  unfold wpX_reachesGoal
  try dsimp only
  exact ax_reachedFrom hc (ax_has (fun b => ⟨rfl, h1 b⟩) (fun b => ⟨rfl, h0 b⟩))
theorem ax_reached (hc : c ≤ 14) {post : Int32 → Prop} (h : post (ag_rc c nd yl (ag_gv p))) : wpX_reached post (nI c, g, p, nd, yl) := by
  unfold wpX_reached
  try dsimp only
  exact ax_given (ax_reachedFrom hc h)
theorem ax_isLeastSupport (hc : c ≤ 14) {post : Int32 → Prop} {s : Int32} (h1 : ag_lst c g nd yl s = true → post 1) (h0 : ag_lst c g nd yl s = false → post 0) : wpX_isLeastSupport post (nI c, g, p, nd, yl) s := by
  unfold wpX_isLeastSupport
  try dsimp only
  refine ax_reachesGoal hc (fun b => ag_y ?_) (fun b => ag_n (h0 (by unfold ag_lst; rw [b]; rfl)))
  refine loop_0 (fun n i (_ : Unit) => wX_isLeastSupport_12 post s (nI c) g p nd yl n (nI i)) (fun i _ => ag_nl c g nd yl s i = true) 12 () rfl (fun n _ I => br_t ag_le12 (h1 (by
    have I' : ag_nl c g nd yl s 12 = true := I
    unfold ag_lst
    rw [b, I']
    rfl))) ?_
  intro n i _ hi I k
  have I' : ag_nl c g nd yl s i = true := I
  refine br_f (ag_ge12 hi) (ax_has (fun q => ag_y (ax_reachesGoal hc (fun r => ag_y (h0 ?_)) (fun r => ag_n (nm_r (nI_1 i) (k () ?_))))) (fun q => ag_n (nm_r (nI_1 i) (k () ?_))))
  · unfold ag_lst
    rw [ag_nl_false c g nd yl s i q r 12 hi]
    simp
  · show (ag_nl c g nd yl s i && !(ag_has s (nI i) && ag_sup c g nd yl (ag_wo s i))) = true
    have r' : ag_sup c g nd yl (ag_wo s i) = false := r
    rw [I', r']
    simp
  · show (ag_nl c g nd yl s i && !(ag_has s (nI i) && ag_sup c g nd yl (ag_wo s i))) = true
    rw [I', q]
    rfl
theorem ax_leastSupports (hc : c ≤ 14) {post : Int32 → Prop} (h : post (ag_least c g p nd yl)) : wpX_leastSupports post (nI c, g, p, nd, yl) := by
  unfold wpX_leastSupports
  try dsimp only
  refine ax_given ?_
  exact ag_loop (fun n i z => wX_leastSupports_9 post (ag_gv p) (nI c) g p nd yl n z (nI i)) (ag_sLeast c g nd yl (ag_gv p)) 4096 0
    (fun n => br_t ag_4096 h)
    (fun n i z hi _ k => br_f (ag_4095 hi) (ax_sub
      (fun a => ag_y (ax_isLeastSupport hc
        (fun b => ag_y (nm_e (nm_r (nI_1 i) (k _ (if_pos ⟨a, b⟩)))))
        (fun b => ag_n (nm_r (nI_1 i) (k _ (if_neg (fun t => ag_ff b t.2)))))))
      (fun a => ag_n (nm_r (nI_1 i) (k _ (if_neg (fun t => a t.1)))))))
theorem ax_useful (hc : c ≤ 14) {post : Int32 → Prop} (h : post (ag_use c g p nd yl)) : wpX_useful post (nI c, g, p, nd, yl) := by
  unfold wpX_useful
  try dsimp only
  refine ax_given ?_
  exact ag_loop (fun n i z => wX_useful_9 post (ag_gv p) (nI c) g p nd yl n z (nI i)) (ag_sUse c g nd yl (ag_gv p)) 4096 0
    (fun n => br_t ag_4096 h)
    (fun n i z hi _ k => br_f (ag_4095 hi) (ax_sub
      (fun a => ag_y (ax_isLeastSupport hc
        (fun b => ag_y (nm_e (nm_r (nI_1 i) (k _ (if_pos ⟨a, b⟩)))))
        (fun b => ag_n (nm_r (nI_1 i) (k _ (if_neg (fun t => ag_ff b t.2)))))))
      (fun a => ag_n (nm_r (nI_1 i) (k _ (if_neg (fun t => a t.1)))))))
theorem ax_cheapestSupport (hc : c ≤ 14) {post : Int32 → Prop} (h : post (ag_cheap c g p nd yl)) : wpX_cheapestSupport post (nI c, g, p, nd, yl) := by
  unfold wpX_cheapestSupport
  try dsimp only
  refine ax_given ?_
  exact ag_loop (fun n i z => wX_cheapestSupport_10 post (ag_gv p) (nI c) g p nd yl n z (nI i)) (ag_sCheap c g p nd yl (ag_gv p)) 4096 (-4)
    (fun n => br_t ag_4096 h)
    (fun n i z hi _ k => br_f (ag_4095 hi) (ax_sub
      (fun a => ag_y (ax_reachesGoal hc
        (fun b => ag_y (ax_costOf (br_c
          (fun q => nm_r (nI_1 i) (k _ (if_pos ⟨a, b, Or.inl q⟩)))
          (fun q => br_c
            (fun w => nm_r (nI_1 i) (k _ (if_neg (fun t => t.2.2.elim q (fun l => ag_nle l w)))))
            (fun w => nm_r (nI_1 i) (k _ (if_pos ⟨a, b, Or.inr (ag_lt w)⟩)))))))
        (fun b => ag_n (nm_r (nI_1 i) (k _ (if_neg (fun t => ag_ff b t.2.1)))))))
      (fun a => ag_n (nm_r (nI_1 i) (k _ (if_neg (fun t => a t.1)))))))
theorem ax_smallestShield (hc : c ≤ 14) {post : Int32 → Prop} (h : post (ag_small c g p nd yl)) : wpX_smallestShield post (nI c, g, p, nd, yl) := by
  unfold wpX_smallestShield
  try dsimp only
  refine ax_given ?_
  exact ag_loop (fun n i z => wX_smallestShield_10 post (ag_gv p) (nI c) g p nd yl n z (nI i)) (ag_sSmall c g nd yl (ag_gv p)) 4096 (-4)
    (fun n => br_t ag_4096 h)
    (fun n i z hi _ k => br_f (ag_4095 hi) (ax_sub
      (fun a => ag_y (ax_reachesGoal hc
        (fun b => ag_y (nm_r (nI_1 i) (k _ (if_neg (fun t => ag_tf b t.2.1)))))
        (fun b => ag_n (ax_sizeOf (br_c
          (fun q => nm_r (nI_1 i) (k _ (if_pos ⟨a, b, Or.inl q⟩)))
          (fun q => br_c
            (fun w => nm_r (nI_1 i) (k _ (if_neg (fun t => t.2.2.elim q (fun l => ag_nle l w)))))
            (fun w => nm_r (nI_1 i) (k _ (if_pos ⟨a, b, Or.inr (ag_lt w)⟩)))))))))
      (fun a => ag_n (nm_r (nI_1 i) (k _ (if_neg (fun t => a t.1)))))))
theorem ax_vital (hc : c ≤ 14) {post : Int32 → Prop} (h : post (ag_vit c g p nd yl)) : wpX_vital post (nI c, g, p, nd, yl) := by
  unfold wpX_vital
  try dsimp only
  refine ax_given (ax_reachesGoal hc (fun s => ag_y ?_) (fun s => ag_n ?_))
  · unfold ag_vit at h
    rw [if_pos s] at h
    exact ag_loop (fun n i z => wX_vital_19 post (ag_gv p) (nI c) g p nd yl n z (nI i)) (ag_sVit c g nd yl (ag_gv p)) 4096 (ag_gv p)
      (fun n => br_t ag_4096 h)
      (fun n i z hi _ k => br_f (ag_4095 hi) (ax_sub
        (fun a => ag_y (ax_reachesGoal hc
          (fun b => ag_y (nm_e (nm_r (nI_1 i) (k _ (if_pos ⟨a, b⟩)))))
          (fun b => ag_n (nm_r (nI_1 i) (k _ (if_neg (fun t => ag_ff b t.2)))))))
        (fun a => ag_n (nm_r (nI_1 i) (k _ (if_neg (fun t => a t.1)))))))
  · unfold ag_vit at h
    rw [if_neg (ag_ff s)] at h
    exact h
theorem ax_best (hc : c ≤ 14) {post : Int32 → Prop} {w : Int32} (h : post (ag_best c g p nd yl w)) : wpX_bestShieldHaving post (nI c, g, p, nd, yl) w := by
  unfold wpX_bestShieldHaving
  try dsimp only
  refine ax_given ?_
  exact ag_loop (fun n i (z : Int32 × Int32) => wX_bestShieldHaving_14 post w (ag_gv p) (nI c) g p nd yl n z.1 z.2 (nI i)) (ag_sBX c g p nd yl (ag_gv p) w) 4096 (-4, 0)
    (fun n => br_t ag_4096 h)
    (fun n i z hi _ k => br_f (ag_4095 hi) (ax_isSubset
      (fun a => ag_y (ax_sub
        (fun a2 => ag_y (ax_reachesGoal hc
          (fun b => ag_y (nm_r (nI_1 i) (k z (if_neg (fun t => ag_tf b t.2.2.1)))))
          (fun b => ag_n (ax_costOf (br_c
            (fun q => nm_r (nI_1 i) (k (nI i, ag_cost p (nI i)) (if_pos ⟨a, a2, b, Or.inl q⟩)))
            (fun q => br_c
              (fun l => nm_r (nI_1 i) (k z (if_neg (fun t => t.2.2.2.elim q (fun m => ag_nle m l)))))
              (fun l => nm_r (nI_1 i) (k (nI i, ag_cost p (nI i)) (if_pos ⟨a, a2, b, Or.inr (ag_lt l)⟩)))))))))
        (fun a2 => ag_n (nm_r (nI_1 i) (k z (if_neg (fun t => a2 t.2.1)))))))
      (fun a => ag_n (nm_r (nI_1 i) (k z (if_neg (fun t => a t.1)))))))
theorem ax_cs (hc : c ≤ 14) {post : Int32 → Prop} {w : Int32} (h : post (ag_cs c g p nd yl w)) : wpX_bestShieldHaving (fun r_1 => (((r_1 = (-4) → (post (-4))) ∧ (¬ r_1 = (-4) → (wpX_costOf (fun r_8 => (post r_8)) (nI c, g, p, nd, yl) r_1))))) (nI c, g, p, nd, yl) w := by
  unfold ag_cs at h
  refine ax_best hc (br_c (fun q => ?_) (fun q => ax_costOf ?_))
  · rw [if_pos q] at h
    exact h
  · rw [if_neg q] at h
    exact h
end

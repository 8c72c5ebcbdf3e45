/-! rows of Math, long arrays copied, texts -/
def cpL (σ : St) (a b sp dp n : Nat) : St := (σ.1, fun o => if o = b then va_cpy (gl σ a) (gl σ b) sp dp n else σ.2 o)
theorem vp_dec {i : Int32} {n : Nat} (h : ¬ (i < 0 ∨ n ≤ i.toNatClampNeg)) : vp_in i n := h
section WR4
variable {X : CT} {ids : List Nat} {nL : Nat} {Qp : Option Value → St → Prop} {pc : Nat} {L L' : List (Nat × Value)} {S : List Value} {σ : St} {cc : ByteArray} {ret : Option FieldType} {dep d : Nat} {own : String}
theorem q_mmax {x y : Int32} {index : Nat} (hX : Cok X ids nL cc ret (d + 1) own) (hd : decode cc pc = .ok (.invokestatic index, 3)) (hl : Cond.methodLink own index Lib.Math.max.name ∈ TB) (hs : Cond.static Lib.Math.max.name ∈ TB) (hi : Cond.initialized "java/lang/Math" ∈ TB) (hc : Cond.code Lib.Math.max.name Lib.Math.max.code 2 (some .int) ∈ TB) (hW : (S.map fun v => v.category).sum ≤ 8) (k : Wg X ids nL Qp (pc + 3) L (.int (if x < y then y else x) :: S) σ) : Wg X ids nL Qp pc L (.int y :: .int x :: S) σ := by
  obtain ⟨p, l, e, R, s, m, args, below, meth, c, ca, ρ, D, A⟩ := X
  obtain ⟨hx, hb, hown, hts, hK, hD, hnd, hml, hlocks, hr, hR, -⟩ := hX
  intro H locs ls hP hS hl'
  refine va_mmax hx hb (hml.trans hl'.1.symm) hown (hts _ hl) (hts _ hs) (hts _ hi) (hts _ hc) ?_ ?_ (Nat.zero_le _) (Nat.zero_le _) hd (k H locs ls hP hS hl')
  · rw [hR]; simp only [rmE]; omega
  · have e : (List.map (fun v => v.category) (List.map (cv ρ) S)) = S.map fun v => v.category := cS_cat ρ S
    rw [hR, e]; simp only [rmE]; omega
theorem q_mmin {x y : Int32} {index : Nat} (hX : Cok X ids nL cc ret (d + 1) own) (hd : decode cc pc = .ok (.invokestatic index, 3)) (hl : Cond.methodLink own index Lib.Math.min.name ∈ TB) (hs : Cond.static Lib.Math.min.name ∈ TB) (hi : Cond.initialized "java/lang/Math" ∈ TB) (hc : Cond.code Lib.Math.min.name Lib.Math.min.code 2 (some .int) ∈ TB) (hW : (S.map fun v => v.category).sum ≤ 8) (k : Wg X ids nL Qp (pc + 3) L (.int (if y < x then y else x) :: S) σ) : Wg X ids nL Qp pc L (.int y :: .int x :: S) σ := by
  obtain ⟨p, l, e, R, s, m, args, below, meth, c, ca, ρ, D, A⟩ := X
  obtain ⟨hx, hb, hown, hts, hK, hD, hnd, hml, hlocks, hr, hR, -⟩ := hX
  intro H locs ls hP hS hl'
  refine va_mmin hx hb (hml.trans hl'.1.symm) hown (hts _ hl) (hts _ hs) (hts _ hi) (hts _ hc) ?_ ?_ (Nat.zero_le _) (Nat.zero_le _) hd (k H locs ls hP hS hl')
  · rw [hR]; simp only [rmE]; omega
  · have e : (List.map (fun v => v.category) (List.map (cv ρ) S)) = S.map fun v => v.category := cS_cat ρ S
    rw [hR, e]; simp only [rmE]; omega
theorem q_ldc_w {v : Int32} {index : Nat} (hX : Cok X ids nL cc ret dep own) (hd : decode cc pc = .ok (.ldc_w index, 3)) (hl : Cond.constant own index v ∈ TB) (k : Wg X ids nL Qp (pc + 3) L (.int v :: S) σ) : Wg X ids nL Qp pc L S σ := by
  obtain ⟨p, l, e, R, s, m, args, below, meth, c, ca, ρ, D, A⟩ := X
  obtain ⟨hx, hb, hown, hts, -⟩ := hX
  intro H locs ls hP hS hl'
  exact lv_ldcw hx hb hown (hts _ hl) hd (k H locs ls hP hS hl')
theorem q_copyl {o1 o2 n1 n2 : Nat} {sp dp n : Int32} {index : Nat} (hX : Cok X ids nL cc ret (d + 1) own) (hd : decode cc pc = .ok (.invokestatic index, 3)) (hl : Cond.methodLink own index arraycopyName ∈ TB) (hnat : Cond.native arraycopyName ∈ TB) (hs : Cond.static arraycopyName ∈ TB) (hi : Cond.initialized "java/lang/System" ∈ TB) (ho1 : IA ids o1 1 n1) (ho2 : IA ids o2 1 n2) (hW : (S.map fun v => v.category).sum ≤ 8)
    (h1 : ¬ sp < 0) (h2 : ¬ dp < 0) (h3 : ¬ n < 0) (h4 : sp.toNatClampNeg + n.toNatClampNeg ≤ n1) (h5 : dp.toNatClampNeg + n.toNatClampNeg ≤ n2) (k : Wg X ids nL Qp (pc + 3) L S (cpL σ o1 o2 sp.toNatClampNeg dp.toNatClampNeg n.toNatClampNeg)) : Wg X ids nL Qp pc L (.int n :: .int dp :: .ref o2 :: .int sp :: .ref o1 :: S) σ := by
  obtain ⟨p, l, e, R, s, m, args, below, meth, c, ca, ρ, D, A⟩ := X
  obtain ⟨hx, hb, hown, hts, hK, hD, hnd, hml, hlocks, hr, hR, -⟩ := hX
  intro H locs ls hP hS hl'
  obtain ⟨i1, -, hi1⟩ := wl_arr ca ρ σ ho1.2.1 ho1.2.2
  obtain ⟨i2, hj2, hi2⟩ := wl_arr ca ρ σ ho2.2.1 ho2.2.2
  refine va_copyl hx hb (hml.trans hl'.1.symm) hown (hts _ hl) (hts _ hnat) (hts _ hs) (hts _ hi) hK hP (hD σ) hS i1 i2 1 1 (f := gl σ o1) (g := gl σ o2) hi1 hi2 rfl rfl rfl h1 h2 h3 h4 h5 (fun _ _ => rfl) ?_ ?_ hd (fun H1 locs1 hP1 hD1 hS1 => ?_)
  · rw [hR]; simp only [rmE]; omega
  · have e : (List.map (fun v => v.category) (List.map (cv ρ) S)) = S.map fun v => v.category := cS_cat ρ S
    have e2 : nativeFrameWords "java/lang/System" "arraycopy" 5 + 11 ≤ 56 := by decide +kernel
    rw [hR, e]; simp only [rmE]; omega
  · have e1 : (wl ids ca ρ σ).set i2 (ρ o2, .inl (ca 2, n2, .inr (.inl (va_cpy (gl σ o1) (gl σ o2) sp.toNatClampNeg dp.toNatClampNeg n.toNatClampNeg)))) = wl ids ca ρ (cpL σ o1 o2 sp.toNatClampNeg dp.toNatClampNeg n.toNatClampNeg) := by
      refine wl_set hnd ca ρ hj2 ?_ (fun q hq => ce_other rfl ?_)
      · rw [ce_arr ho2.2.2, ac_lon]
        have e3 : gl (cpL σ o1 o2 sp.toNatClampNeg dp.toNatClampNeg n.toNatClampNeg) o2 = va_cpy (gl σ o1) (gl σ o2) sp.toNatClampNeg dp.toNatClampNeg n.toNatClampNeg := by
          show (fun k => (if o2 = o2 then va_cpy (gl σ o1) (gl σ o2) sp.toNatClampNeg dp.toNatClampNeg n.toNatClampNeg else σ.2 o2) k) = _
          rw [if_pos rfl]
        rw [e3]
      · show (fun k => (if q = o2 then va_cpy (gl σ o1) (gl σ o2) sp.toNatClampNeg dp.toNatClampNeg n.toNatClampNeg else σ.2 q) k) = _
        rw [if_neg hq]
        rfl
    rw [e1] at hP1
    exact k H1 locs1 ls hP1 hS1 hl'
theorem q_ldcS {i index : Nat} (hX : Cok X ids nL cc ret dep RX5) (hd : decode cc pc = .ok (.ldc index, 2)) (hi : i < 10) (hx0 : kxs.getD i 0 = index) (k : Wg X ids nL Qp (pc + 2) L (.ref (1010 + i) :: S) σ) : Wg X ids nL Qp pc L S σ := by
  obtain ⟨p, l, e, R, s, m, args, below, meth, c, ca, ρ, D, A⟩ := X
  obtain ⟨hx, hb, hown, hts, hK, hD, hnd, hml, hlocks, hr, hR, hSx, -⟩ := hX
  intro H locs ls hP hS hl'
  subst hx0
  exact va_ldcS hx hb hown (hSx.2.2.2.2.2.2.1 i hi) hd (k H locs ls hP hS hl')
theorem q_kcod {i index : Nat} (hX : Cok X ids nL cc ret dep own) (hd : decode cc pc = .ok (.getfield index, 3)) (hl : Cond.fieldLink own index "java/lang/String" "coder" "B" ∈ TB) (hi : i < 10) (k : Wg X ids nL Qp (pc + 3) L (.int 0 :: S) σ) : Wg X ids nL Qp pc L (.ref (1010 + i) :: S) σ := by
  obtain ⟨p, l, e, R, s, m, args, below, meth, c, ca, ρ, D, A⟩ := X
  obtain ⟨hx, hb, hown, hts, hK, hD, hnd, hml, hlocks, hr, hR, hSx, -⟩ := hX
  intro H locs ls hP hS hl'
  exact vk_getf hx hb (hSx.2.2.2.2.2.1.1 i hi).2.1 hS hown (hts _ hl) (fun _ h => h) hd (k H locs ls hP hS hl')
theorem q_kval {i index : Nat} (hX : Cok X ids nL cc ret dep own) (hd : decode cc pc = .ok (.getfield index, 3)) (hl : Cond.fieldLink own index "java/lang/String" "value" "[B" ∈ TB) (hi : i < 10) (k : Wg X ids nL Qp (pc + 3) L (.ref (1030 + i) :: S) σ) : Wg X ids nL Qp pc L (.ref (1010 + i) :: S) σ := by
  obtain ⟨p, l, e, R, s, m, args, below, meth, c, ca, ρ, D, A⟩ := X
  obtain ⟨hx, hb, hown, hts, hK, hD, hnd, hml, hlocks, hr, hR, hSx, -⟩ := hX
  intro H locs ls hP hS hl'
  exact vk_getf hx hb (hSx.2.2.2.2.2.1.1 i hi).2.2.1 hS hown (hts _ hl) (fun _ h => h) hd (k H locs ls hP hS hl')
theorem q_kald {i : Nat} {j : Int32} (hX : Cok X ids nL cc ret dep own) (hd : decode cc pc = .ok (.baload, 1)) (hi : i < 10) (hin : vp_in j (kls.getD i 0)) (k : Wg X ids nL Qp (pc + 1) L (.int ((kbs.getD i []).getD j.toNatClampNeg 0) :: S) σ) : Wg X ids nL Qp pc L (.int j :: .ref (1030 + i) :: S) σ := by
  obtain ⟨p, l, e, R, s, m, args, below, meth, c, ca, ρ, D, A⟩ := X
  obtain ⟨hx, hb, hown, hts, hK, hD, hnd, hml, hlocks, hr, hR, hSx, -⟩ := hX
  intro H locs ls hP hS hl'
  exact va_tb hx hb (hSx.2.2.2.2.2.1.1 i hi).2.2.2 hS hin rfl hd (k H locs ls hP hS hl')
theorem q_klen {i : Nat} (hX : Cok X ids nL cc ret dep own) (hd : decode cc pc = .ok (.arraylength, 1)) (hi : i < 10) (k : Wg X ids nL Qp (pc + 1) L (.int (nI (kls.getD i 0)) :: S) σ) : Wg X ids nL Qp pc L (.ref (1030 + i) :: S) σ := by
  obtain ⟨p, l, e, R, s, m, args, below, meth, c, ca, ρ, D, A⟩ := X
  obtain ⟨hx, hb, hown, hts, hK, hD, hnd, hml, hlocks, hr, hR, hSx, -⟩ := hX
  intro H locs ls hP hS hl'
  exact va_tlen hx hb (hSx.2.2.2.2.2.1.1 i hi).2.2.2 hS rfl hd (k H locs ls hP hS hl')
theorem q_compact {index : Nat} (hX : Cok X ids nL cc ret dep own) (hd : decode cc pc = .ok (.getstatic index, 3)) (hl : Cond.fieldLink own index "java/lang/String" "COMPACT_STRINGS" "Z" ∈ TB) (k : Wg X ids nL Qp (pc + 3) L (.int 1 :: S) σ) : Wg X ids nL Qp pc L S σ := by
  obtain ⟨p, l, e, R, s, m, args, below, meth, c, ca, ρ, D, A⟩ := X
  obtain ⟨hx, hb, hown, hts, hK, hD, hnd, hml, hlocks, hr, hR, hSx, -⟩ := hX
  intro H locs ls hP hS hl'
  exact va_gets hx hb hSx.2.2.2.2.1 hS hown (hts _ hl) (fun _ h => h) hd (k H locs ls hP hS hl')
theorem q_sioobe {index : Nat} (hX : Cok X ids nL cc ret dep own) (hd : decode cc pc = .ok (.getstatic index, 3)) (hl : Cond.fieldLink own index "jdk/internal/util/Preconditions" "SIOOBE_FORMATTER" "Ljava/util/function/BiFunction;" ∈ TB) (kn : Wg X ids nL Qp (pc + 3) L (.null :: S) σ) (ks : Wg X ids nL Qp (pc + 3) L (.ref 1050 :: S) σ) : Wg X ids nL Qp pc L S σ := by
  obtain ⟨p, l, e, R, s, m, args, below, meth, c, ca, ρ, D, A⟩ := X
  obtain ⟨hx, hb, hown, hts, hK, hD, hnd, hml, hlocks, hr, hR, hSx, -⟩ := hX
  intro H locs ls hP hS hl'
  rcases hSx.2.2.2.2.2.2.2 with hZ | hZ
  · exact va_gets hx hb hZ hS hown (hts _ hl) (fun _ h => h) hd (kn H locs ls hP hS hl')
  · exact va_gets hx hb hZ hS hown (hts _ hl) (fun _ h => h) hd (ks H locs ls hP hS hl')
theorem q_callK {y : MY} {index n i : Nat} {As : List Value} {st : List Value} {F : Option Value → St → Prop} (hy : YOk y n) (hC : y.1.cls = "java/lang/String") (hin : Cond.instanceMethod y.1 ∈ TB) (hse : Cond.selects "java/lang/String" y.1 y.1 ∈ TB) (hl : Cond.methodLink own index y.1 ∈ TB) (hX : Cok X ids nL cc ret dep own) (hdep : d + 1 ≤ dep) (hd : decode cc pc = .ok (.invokevirtual index, 3)) (hi : i < 10) (hn : As.length = n) (hst : st = As.reverse ++ .ref (1010 + i) :: S) (hW : (S.map fun v => v.category).sum ≤ 8)
    (hE : E d ids y (.ref (1010 + i) :: As) σ F) (kk : ∀ r σ', F r σ' → Wg X ids nL Qp (pc + 3) L (r.toList ++ S) σ') : Wg X ids nL Qp pc L st σ := by
  obtain ⟨p, l, e, R, s, m, args, below, meth, c, ca, ρ, D, A⟩ := X
  obtain ⟨hx, hb, hown, hts, hK, hD, hnd, hml, hlocks, hr, hR, hSx, hinj, hA, hI⟩ := hX
  intro H locs ls hP hS hl'
  subst hst
  have hrec := vk_recv hSx.2.2.2.2.2.1 hi hS
  have hcw : CallW R s args own "java/lang/String" index y.1 y.2.1 y.2.2.1 y.2.2.2 (wsE y) (rmE d) 0 0 n := by
    refine ⟨callB_of (ws' := TB) n hts hy.good rfl rfl rfl (hts _ hy.2.1) (hts _ hl) hy.2.2.1 ?_, hts _ hin, hts _ hse⟩
    rw [hR]
    have h45 := hy.2.2.2
    simp only [rmE]
    omega
  refine q_back (va_runV (As := cS ρ As) (rest := cS ρ S) (Ts := TB) (C := "java/lang/String") ⟨hx, hb, hml, hown, hts⟩ (hE l ca ρ D H.size hnd hinj) hcw ⟨pre_blind, hrec, fun U hU hW => ⟨rfl, by rw [hU], by rw [hU]; exact hP, va_K.moved hW.alike hK, Sx_pass hSx hS hW hU hA hI⟩⟩ rfl (by rw [cS, List.length_map]; exact hn) hl'.1 (by simp [cS, cv, F0]) (lv_room (by rw [cS_cat]; exact hW)) hd ⟨Nat.zero_le _, Nat.zero_le _⟩) hS hA hI (fun r σ' H1 locs1 hF hP1 hS1 => ?_)
  have h := kk r σ' hF H1 locs1 ls hP1 hS1 hl'
  cases r <;> exact h
end WR4

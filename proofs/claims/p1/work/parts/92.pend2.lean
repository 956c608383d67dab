/-! what is on its way is done: both sides -/
theorem flt_len (f : Rq → Bool) : ∀ L : List Rq, (L.filter f).length + (L.filter (fun r => !(f r))).length = L.length := by
  intro L
  induction L with
  | nil => rfl
  | cons a l ih =>
    cases z : f a with
    | true => rw [List.filter_cons_of_pos z, List.filter_cons_of_neg (by simp [z]), List.length_cons, List.length_cons]; omega
    | false => rw [List.filter_cons_of_neg (by simp [z]), List.filter_cons_of_pos (by simp [z]), List.length_cons, List.length_cons]; omega
theorem flt_comm (f g : Rq → Bool) (L : List Rq) : (L.filter f).filter g = (L.filter g).filter f := by
  rw [List.filter_filter, List.filter_filter]
  congr 1
  funext a
  rw [Bool.and_comm]
theorem flt_imp {f g : Rq → Bool} {L : List Rq} (h : ∀ r, r ∈ L → f r = true → g r = true) : (L.filter g).filter f = L.filter f := by
  rw [List.filter_filter]
  refine List.filter_congr fun r hr => ?_
  cases z : f r with
  | false => rfl
  | true => rw [h r hr z]; rfl
theorem flt_all {f : Rq → Bool} {L : List Rq} (h : ∀ r, r ∈ L → f r = true) : L.filter f = L := List.filter_eq_self.mpr h
theorem pf_mem {sz : Nat} : ∀ (L : List Rq) (σ : Ms), (∀ r, r ∈ L → r.p < sz) → ∀ p, sz ≤ p → (L.foldl pf σ).1 p = σ.1 p := by
  intro L
  induction L with
  | nil => intro σ _ p _; rfl
  | cons a l ih =>
    intro σ h p hp
    rw [List.foldl_cons, ih (pf σ a) (fun r hr => h r (List.mem_cons_of_mem _ hr)) p hp]
    have := h a (List.mem_cons_self ..)
    show (if p = a.p then _ else σ.1 p) = σ.1 p
    rw [if_neg (by omega)]
theorem pend_st {F : Nat} {o : Nat → Nat} {hc H : Hp} {x m lo ln sl nn bk ga sz c G U0 nC Ta : Nat} (hF : 40000 ≤ F) (S : Sm o hc H x m lo ln sl nn bk ga sz c c G U0 nC Ta) (cl : c < 2 ^ 30) : ∃ kc kr, f_Memory_finish F (x + 3) (nI c) hc = some kc ∧ f_Mod_doPending F m H = some kr ∧ Sm o kc kr x m lo ln sl nn bk ga sz c (c + 1) G U0 nC Ta ∧ RC m lo hc kc ∧ RR m H kr ∧ LaK hc H kc kr x m ∧ hI kr 715 m = hI H 715 m ∧ hI kr 727 m = hI H 727 m := by
  have X := S.X
  have hx := X.hx
  have lx := X.lx
  have C := X.C
  have l32 := X.l32
  have T := S.T
  obtain ⟨lg1, lg2, lg3⟩ := S.lg
  obtain ⟨L, Z, sp, tg, p1, p2, p3, p4, p5, p6, p7, p8⟩ := S.P
  have l64 : c % 64 < 64 := Nat.mod_lt _ (by decide)
  have ec : (nI c &&& 63) = nI (c % 64) := and63 (by omega)
  have dueRow : ∀ r : Rq, dueB (nI c) r = true → decide ((r.t &&& 63) = nI (c % 64)) = true := fun r hr => by
    have : r.t = nI c := of_decide_eq_true hr
    rw [this]
    exact decide_eq_true ec
  have memZ : ∀ r q, r < 64 → q ∈ Z r → q.2 ∈ L := fun r q hr hq => by
    have := ((p4 r hr).mem (r := q.2)).mp (List.mem_map.mpr ⟨q, hq, rfl⟩)
    exact (List.mem_filter.mp this).1
  have d16 : ∀ r, r ∈ L → r.d < 16 := fun r hr => (p7 r hr).o2.1.2.2.2.2.1
  have ndF : ∀ f : Rq → Bool, ((L.filter f).map th).Nodup := fun f => (List.Sublist.map th List.filter_sublist).nodup p6
  have E1 : Eqv (L.filter (fun q => decide ((q.t &&& 63) = nI (c % 64)))) ((Z (c % 64)).map Prod.snd) := fun p => (p4 (c % 64) l64 p).symm
  have len1 := (fold_eq _ _ E1 (ndF _) (fun r hr => d16 r (List.mem_filter.mp hr).1)).2
  rw [List.length_map] at len1
  have lenF := List.length_filter_le (fun q : Rq => decide ((q.t &&& 63) = nI (c % 64))) L
  have fm : ∀ f : Rq → Bool, ((Z (c % 64)).filter (fun q => f q.2)).map Prod.snd = ((Z (c % 64)).map Prod.snd).filter f := fun f => by
    rw [List.filter_map]; rfl
  have E2 : Eqv (L.filter (dueB (nI c))) (((Z (c % 64)).filter (fun q => dueB (nI c) q.2)).map Prod.snd) := by
    rw [fm (dueB (nI c)), ← flt_imp (f := dueB (nI c)) (g := fun q => decide ((q.t &&& 63) = nI (c % 64))) (fun r _ hr => dueRow r hr)]
    exact E1.filter (dueB (nI c))
  obtain ⟨fold2, len2⟩ := fold_eq _ _ E2 (ndF _) (fun r hr => d16 r (List.mem_filter.mp hr).1)
  rw [List.length_map] at len2
  have lsum := flt_len (dueB (nI c)) L
  /- slots -/
  obtain ⟨bs, ebs⟩ : ∃ bs : Nat → Bool, bs = fun s => decide (¬ hA H (m + 9) s = -1) := ⟨_, rfl⟩
  have bsy : ∀ s, s < 128 → bs s = true → ∃ w rg pl ro pr ti L b bl, hQ hc (x + 16 + 3 * (s / 16)) (s % 16) = some w ∧ Ws o lo hc s w rg pl ro pr ti L ∧ Wb hc H x m s ln b w rg pl pr ti L bl ∧ rgO hc x s = rg := fun s hs hb => busy_of (X.S s hs) (by rw [ebs] at hb; exact of_decide_eq_true hb)
  have rtag : ∀ s, s < 128 → bs s = true → o (rgO hc x s) = 6 * s + 1 ∧ lo ≤ rgO hc x s := fun s hs hb => by
    obtain ⟨w, rg, pl, ro, pr, ti, L, b, bl, z1, W, B, e⟩ := bsy s hs hb
    rw [e]
    exact ⟨W.t_rg, W.b_rg.1⟩
  have FE0 : FE hc x lo ln sz bs (rgO hc x) := ⟨C, hx, lx, S.ms, S.Z.i1.2, l32, fun s hs hb => by
    obtain ⟨w, rg, pl, ro, pr, ti, L, b, bl, z1, W, B, e⟩ := bsy s hs hb
    rw [e]
    exact ⟨W.k_rg, W.b_rg.1, W.b_rg.2⟩, fun s t hs ht hb hb2 ee => by
    have a1 := (rtag s hs hb).1
    have a2 := (rtag t ht hb2).1
    rw [ee] at a1
    omega⟩
  have m0 : MsC hc x ln sz bs (rgO hc x) (msR H m) := ⟨S.mm, fun s hs hb j hj => by
    obtain ⟨w, rg, pl, ro, pr, ti, L, b, bl, z1, W, B, e⟩ := bsy s hs hb
    rw [e]
    have := B.reg (j / 16) (j % 16) (by omega) (by omega)
    rw [show 16 * (j / 16) + j % 16 = j by omega, show 16 * (32 * s + j / 16) + j % 16 = 512 * s + j by omega] at this
    exact this⟩
  have rqe : ∀ r, r ∈ L → RqE hc x lo ln sz (rgO hc x) r ∧ bs r.s = true := fun r hr => by
    have Q := p7 r hr
    have rs : r.s < 128 := Q.o2.1.1
    have rb : r.b < 64 := Q.o2.1.2.2.1
    have hb : bs r.s = true := by rw [ebs]; exact decide_eq_true (by rw [Q.sb]; exact nI_m1 (by omega))
    obtain ⟨w, rg, pl, ro, pr, ti, L2, b, bl, z1, W, B, e⟩ := bsy r.s rs hb
    have eb : b = r.b := by
      have := B.sb
      rw [Q.sb] at this
      exact ((nI_eq (by omega) (by have := B.b64; omega)).mp this).symm
    have ri : r.i < ln := by
      have := Q.rl.1
      rw [S.Z.ln] at this
      by_cases z : r.i < ln
      · exact z
      · exact absurd (nI_le (by omega) (by have := Q.o2.1.2.1; omega)) this
    refine ⟨⟨Q.o2, Q.ps, ri, w, pl, ro, pr, ti, z1, ?_, W.bw, ?_, ?_, W.b_pl.2, W.b_ro.2, W.b_pr.2, W.b_ti.2⟩, hb⟩
    · rw [e]; exact W.wp B.lns B.lnL
    · rw [e]; exact W.b_rg
    · rw [B.blk, ← eb, B.bq]
  obtain ⟨kc, tg2, sp2, f1, A, RW2, SP2, MS2, n259, splen, hT1, hU1⟩ := c_Memory_finish (F := F) (c := nI c) (N := L.length) hF ec l64 FE0 p2 p3 m0 (fun q hq => rqe q.2 (memZ _ q l64 hq)) (by omega) p5 (by omega) (by omega)
  obtain ⟨kr, g1, R, ms, Pd2⟩ := c_Mod_doPending (F := F) (c := nI c) S.M hF p1 S.cy (by omega) (fun r hr => ⟨(p7 r hr).o2.1, (p7 r hr).sb, by
    obtain ⟨t, h1, h2, h3⟩ := (p7 r hr).tt
    rw [h3]
    exact nI_le h1 (by omega)⟩)
  rw [← fold2, ← ms] at MS2
  rw [← len2] at n259 splen
  have rI : ∀ f, ¬ f = 745 → ¬ f = 746 → hI kr f m = hI H f m := fun f h1 h2 => R.i (by omega)
  have rA : ∀ a j, ¬ (a = m + 2 ∨ a = m + 13 ∨ ((m + 19) ≤ a ∧ a ≤ (m + 24))) → hA kr a j = hA H a j := fun a j h => R.a h j
  have kst : ∀ a, x ≤ a → a ≤ x + 38 → ¬ a = x + 14 → ¬ hK hc a = 11 := fun a h1 h2 h3 y => by have := C.st h1 h2 h3; omega
  have noPF : ∀ f a, ¬ hK hc a = 11 → a < hT hc → ¬ (a = x + 8 ∧ (f = 258 ∨ f = 259)) → ¬ ((a = x + 9 ∨ a = x + 10) ∧ f = 9999) → ¬ (f = 9999 ∧ (a = x + 4 ∨ lo ≤ a)) → ¬ PF x bs (rgO hc x) hc f a := fun f a h1 h2 h3 h4 h5 y => by
    rcases y with y | ⟨y1, y | ⟨s, s1, s2, y⟩⟩
    · unfold PA at y; omega
    · exact h5 ⟨y1, Or.inl y⟩
    · exact h5 ⟨y1, Or.inr (by rw [y]; exact (rtag s s1 s2).2)⟩
  have cI : ∀ f a, x ≤ a → a ≤ x + 38 → ¬ a = x + 14 → ¬ (a = x + 8 ∧ (f = 258 ∨ f = 259)) → ¬ f = 9999 → hI kc f a = hI hc f a := fun f a h1 h2 h3 h4 h5 => ((A.2 a (by omega)).2.2.1 f (noPF f a (kst a h1 h2 h3) (by omega) h4 (by omega) (by omega))).1
  have ec2 : cs0 kr m = cs0 H m := by
    unfold cs0
    rw [rI _ (by omega) (by omega), rI _ (by omega) (by omega), show hA kr (m + 3) = hA H (m + 3) from funext fun j => rA _ _ (by omega), show hA kr (m + 4) = hA H (m + 4) from funext fun j => rA _ _ (by omega)]
  have Rsx : ∀ a j, ((m + 9) ≤ a ∧ a ≤ (m + 12)) ∨ ((m + 14) ≤ a ∧ a ≤ (m + 17)) → hA kr a j = hA H a j := fun a j h => rA a j (by omega)
  have slots : ∀ t, t < 128 → SlotOk o kc kr x m lo ln t := fun t ht => (X.S t ht).reg X.K ht hx lx C A rtag ⟨rI _ (by omega) (by omega), rI _ (by omega) (by omega)⟩ Rsx (fun w rg hw hrg nb j hj => by
    have hb : bs t = true := by rw [ebs]; exact decide_eq_true nb
    have := MS2.2 t ht hb j hj
    rw [show rgO hc x t = rg from by unfold rgO; rw [hw]; dsimp only; rw [hrg]; rfl] at this
    exact this)
  have avE : ∀ c2 t, avB kr m c2 t = avB H m c2 t ∧ wtB kr m c2 t = wtB H m c2 t := fun c2 t => by
    unfold avB wtB
    rw [rA (m + 9) (t / 32) (by omega), rA (m + 16) t (by omega), rA (m + 17) t (by omega), show decide (rLn kr m (t / 32) (t % 32)) = decide (rLn H m (t / 32) (t % 32)) from decide_eq_decide.mpr (rLn_same (rI _ (by omega) (by omega)) (rI _ (by omega) (by omega)) (rA _ _ (by omega)))]
    exact ⟨rfl, rfl⟩
  have blocks : ∀ c2, c2 < 64 → BlockOk o kc kr x m lo c2 := fun c2 h64 => by
    refine (X.B c2 h64).fr (by omega) (((A.2 (x + 13) (by omega)).2.2.2 (noPF _ _ (kst _ (by omega) (by omega) (by omega)) (by omega) (by omega) (by omega) (by omega)) c2).2.1) (fun a h1 h2 h3 h4 => ?_) (fun t ht => by rw [rA _ _ (by omega)]) (rI _ (by omega) (by omega)) (rI _ (by omega) (by omega)) (cn_congr 4096 fun t _ => (avE c2 t).1) (cn_congr 4096 fun t _ => (avE c2 t).2) (fun k _ => rA _ _ (by omega))
    obtain ⟨v1, v2, v3, v4⟩ := A.2 a h2
    refine ⟨v1, v2, fun f _ _ => v3 f (noPF f a (by omega) h2 (by omega) (by omega) (by omega)), fun j => (v4 (fun y => ?_) j).1⟩
    rcases y with y | ⟨_, y | ⟨s, s1, s2, y⟩⟩
    · unfold PA at y; omega
    · omega
    · have := (rtag s s1 s2).1; rw [← y] at this; omega
  have X2 : Sx o kc kr x m lo ln sl := by
    refine ⟨PF_cd C A hx (fun s h1 h2 => by have := (rtag s h1 h2).2; omega), fun k hk => ?_, by omega, lx, fun u hu => by rw [cI _ _ (by omega) (by omega) (by omega) (by omega) (by omega)]; exact X.us u hu, X.s16, by rw [rI _ (by omega) (by omega)]; exact X.hl, l32, slots, blocks, fun t ht z => X.nf t ht (by rw [← rA (m + 9) t (by omega)]; exact z), fun u hu => ?_⟩
    · obtain ⟨y, y1, y2, y3⟩ := X.K k hk
      have a1 := A.2 y y2
      have k10 := y3.k
      have k5 := C.k_pending
      refine ⟨y, by rw [((A.2 (x + 2) (by omega)).2.2.2 (noPF _ _ (kst _ (by omega) (by omega) (by omega)) (by omega) (by omega) (by omega) (by omega)) k).2.1]; exact y1, by omega, ?_⟩
      rw [R.1.2.2.2.2.2.2]
      exact y3.same a1.1 (fun f h1 h2 => (a1.2.2.1 f (noPF f y (by omega) y2 (fun z => by rw [z.1] at k10; omega) (by omega) (by omega))).1)
    · rw [cI _ _ (by omega) (by omega) (by omega) (by omega) (by omega), X.uf u hu]
      exact congrArg nI (cn_congr sl fun k _ => by rw [rA (m + 9) _ (by omega)])
  have P2 : Pn kc kr x m lo sz (c + 1) Ta := by
    refine ⟨_, _, sp2, tg2, Pd2, RW2, SP2, fun r hr => ?_, ?_, ndF _, fun r hr => ?_, by omega⟩
    · unfold cut
      by_cases z : r = c % 64
      · rw [if_pos z, fm (fun r => !(dueB (nI c) r)), z, flt_comm]
        exact (p4 (c % 64) l64).filter _
      · rw [if_neg z, flt_comm, flt_all (f := fun r => !(dueB (nI c) r))]
        · exact p4 r hr
        · intro q hq
          cases y : dueB (nI c) q with
          | false => rfl
          | true =>
            have h1 := of_decide_eq_true (dueRow q y)
            have h2 := of_decide_eq_true (List.mem_filter.mp hq).2
            rw [h1] at h2
            exact absurd ((nI_eq (by omega) (by omega)).mp h2).symm z
    · rw [n259]; congr 1; omega
    · obtain ⟨h1, h2⟩ := List.mem_filter.mp hr
      have Q := p7 r h1
      obtain ⟨t, t1, t2, t3⟩ := Q.tt
      have ne : ¬ t = c := fun y => by
        rw [y] at t3
        rw [show dueB (nI c) r = true from decide_eq_true t3] at h2
        cases h2
      exact ⟨Q.o2, Q.ps, by rw [rA _ _ (by omega)]; exact Q.sb, (rLn_same (rI _ (by omega) (by omega)) (rI _ (by omega) (by omega)) (rA _ _ (by omega))).mpr Q.rl, by rw [rA _ _ (by omega)]; exact Q.ne, ⟨t, by omega, t2, t3⟩, by rw [rA _ _ (by omega)]; exact Q.tm⟩
  have Zz := S.Z
  have S2 : Sm o kc kr x m lo ln sl nn bk ga sz c (c + 1) G U0 nC Ta := by
    refine ⟨R.md S.M, S.xm, S.ml, by rw [hT1]; exact S.lh, fun a h1 h2 => by rw [(A.2 a (by have := S.lh; omega)).1]; exact S.nK a h1 h2, X2, ⟨by rw [rI _ (by omega) (by omega)]; exact Zz.ln, by rw [rI _ (by omega) (by omega)]; exact Zz.sl, by rw [rI _ (by omega) (by omega)]; exact Zz.nu, by rw [rI _ (by omega) (by omega)]; exact Zz.bk, by rw [rI _ (by omega) (by omega)]; exact Zz.ga, by rw [rI _ (by omega) (by omega)]; exact Zz.sz, Zz.lp, Zz.s1, Zz.u1, Zz.bp, Zz.g1, Zz.i1⟩, ⟨fun j hj => ?_, ?_, ?_, ?_, fun j hj => ?_, fun j hj => ?_, fun t ht => ?_⟩, fun p hp => MS2.1 p hp, ?_, fun p h1 h2 => ?_, ?_, by rw [ec2]; exact S.gb, fun u hu => by rw [rA _ _ (by omega)]; exact S.lt u hu, by rw [rI _ (by omega) (by omega)]; exact S.cy, P2, ?_⟩
    · rw [cI _ _ (by omega) (by omega) (by omega) (by omega) (by omega), rI _ (by omega) (by omega)]; exact T.sz j hj
    · rw [cI _ _ (by omega) (by omega) (by omega) (by omega) (by omega), rI _ (by omega) (by omega)]; exact T.en
    · rw [cI _ _ (by omega) (by omega) (by omega) (by omega) (by omega), rI _ (by omega) (by omega)]; exact T.cy
    · rw [cI _ _ (by omega) (by omega) (by omega) (by omega) (by omega), rI _ (by omega) (by omega)]; exact T.al
    · rw [cI _ _ (by omega) (by omega) (by omega) (by omega) (by omega), rI _ (by omega) (by omega)]; exact T.wd j hj
    · rw [cI _ _ (by omega) (by omega) (by omega) (by omega) (by omega), rI _ (by omega) (by omega)]; exact T.tr j hj
    · rw [cI _ _ (by omega) (by omega) (by omega) (by omega) (by omega), cI _ _ (by omega) (by omega) (by omega) (by omega) (by omega), cI _ _ (by omega) (by omega) (by omega) (by omega) (by omega), cI _ _ (by omega) (by omega) (by omega) (by omega) (by omega), rA _ _ (by omega), rA _ _ (by omega), rA _ _ (by omega), rA _ _ (by omega)]
      exact T.un t ht
    · rw [cI _ _ (by omega) (by omega) (by omega) (by omega) (by omega)]; exact S.ms
    · have h3 := pf_mem (L.filter (dueB (nI c))) (msR H m) (fun r hr => (p7 r (List.mem_filter.mp hr).1).ps) p h1
      rw [← ms] at h3
      have h4 : hA kr (m + 2) p = hA H (m + 2) p := h3
      rw [h4]
      exact S.mz p h1 h2
    · rw [ec2]
      exact S.ca.fr A hx (noPF _ _ (kst _ (by omega) (by omega) (by omega)) (by omega) (by omega) (by omega) (by omega)) (noPF _ _ (kst _ (by omega) (by omega) (by omega)) (by omega) (by omega) (by omega) (by omega)) (noPF _ _ (kst _ (by omega) (by omega) (by omega)) (by omega) (by omega) (by omega) (by omega)) (noPF _ _ (kst _ (by omega) (by omega) (by omega)) (by omega) (by omega) (by omega) (by omega))
    · have e := PT.fr X.S A hx (noPF _ _ (kst _ (by omega) (by omega) (by omega)) (by omega) (by omega) (by omega) (by omega)) (fun u hu => noPF _ _ (kst _ (by omega) (by omega) (by omega)) (by omega) (by omega) (by omega) (by omega)) (fun a h1 h2 h3 => noPF _ _ (by omega) h2 (by omega) (by omega) (by omega))
      exact ⟨by rw [hT1, e]; exact lg1, by rw [hT1, hU1]; exact lg2, lg3⟩
  refine ⟨kc, kr, f1, g1, S2, RC.of A S.lh (fun f a h1 h2 => ?_), RR.of R (fun a z => by omega), ⟨fun f h1 h2 => cI _ _ (by omega) (by omega) (by omega) (by omega) (by omega), fun f h1 h2 => rI _ (by omega) (by omega), fun t _ => Or.inl (rA _ _ (by omega)), fun f hf => rI _ (by omega) (by omega)⟩, rI _ (by omega) (by omega), rI _ (by omega) (by omega)⟩
  have := S.nK a h1 h2
  have := S.xm
  have := S.lh
  exact noPF f a (by omega) (by omega) (by omega) (by omega) (by omega)

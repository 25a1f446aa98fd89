theorem z_alen2 {M : z_M} {d pc pc' : Nat} {ls : List (Nat × z_V)} {st : List z_V} {w : z_Wd} {Q : Option z_V → z_Wd → Prop} {k n : Nat} {v : Int} {rs : List Nat} (hk : k < z_N) (hsh : z_sh k = .inr (0, n, rs)) (hv : (n : Int) = v) (hd : decode M.2.1 pc = .ok (.arraylength, 1)) (hp : pc + 1 = pc') (kk : z_Wp M d pc' ls (zI v :: st) w Q) : z_Wp M d pc ls (zR k :: st) w Q := by
  subst hv
  exact z_alen hk hsh hd hp kk

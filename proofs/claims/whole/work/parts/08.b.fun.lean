def f_X10_isIn (N : Nat) (s : Hp) (x0 x1 x2 : Int32) : Option (Int32 × Hp) :=
 if x0 < x1 then (
  some (0, s))
 else (
  if x2 < x0 then (
   some (0, s))
  else (
   some (1, s)))
def f_X10_post (N : Nat) (s : Hp) (x1 x2 : Int32) : Option (Int32 × Hp) :=
 bd (f_X10_isIn N s x1 0 31) fun v2 s1 =>
 if v2 = 0 then (
  some ((-1), s1))
 else (
  bd (f_X10_isIn N s1 x2 0 31) fun v4 s3 =>
  if v4 = 0 then (
   some ((-1), s3))
  else (
   if (s3 36 0) = 6 then (
    some ((-1), s3))
   else (
    ck (inR (s3 36 0) 6) (sb (hset s3 37 (ix (s3 36 0)) x1) fun s5 =>
    ck (inR (s5 36 0) 6) (sb (hset s5 38 (ix (s5 36 0)) x2) fun s6 =>
    sb (hset s6 36 0 ((s6 36 0) + 1)) fun s7 =>
    some ((s7 36 0) - 1, s7))))))
def f_X10_isPost (N : Nat) (s : Hp) (x1 : Int32) : Option (Int32 × Hp) :=
 bd (f_X10_isIn N s x1 0 ((s 36 0) - 1)) fun v2 s1 =>
 ck (isB v2) (some (v2, s1))
def f_X10_isSpan (N : Nat) (s : Hp) (x0 x1 : Int32) : Option (Int32 × Hp) :=
 bd (f_X10_isIn N s x0 0 9999) fun v2 s1 =>
 if v2 = 0 then (
  some (0, s1))
 else (
  bd (f_X10_isIn N s1 x1 x0 9999) fun v4 s3 =>
  if v4 = 0 then (
   some (0, s3))
  else (
   some (1, s3)))
def f_X10_listened (N : Nat) (s : Hp) (x1 x2 x3 x4 : Int32) : Option (Int32 × Hp) :=
 bd (f_X10_isPost N s x1) fun v2 s1 =>
 if v2 = 0 then (
  some ((-1), s1))
 else (
  bd (f_X10_isIn N s1 x2 0 15) fun v4 s3 =>
  if v4 = 0 then (
   some ((-1), s3))
  else (
   bd (f_X10_isSpan N s3 x3 x4) fun v6 s5 =>
   if v6 = 0 then (
    some ((-1), s5))
   else (
    if (s5 36 3) = 100 then (
     some ((-1), s5))
    else (
     ck (inR (s5 36 3) 100) (sb (hset s5 39 (ix (s5 36 3)) x1) fun s7 =>
     ck (inR (s7 36 3) 100) (sb (hset s7 40 (ix (s7 36 3)) x2) fun s8 =>
     ck (inR (s8 36 3) 100) (sb (hset s8 41 (ix (s8 36 3)) x3) fun s9 =>
     ck (inR (s9 36 3) 100) (sb (hset s9 42 (ix (s9 36 3)) x4) fun s10 =>
     sb (hset s10 36 3 ((s10 36 3) + 1)) fun s11 =>
     some (s11 36 3, s11)))))))))
def f_X10_wasListened_61 (N : Nat) (k3 : Hp → Int32 → Int32 → Int32 → Int32 → Option (Int32 × Hp)) (s : Hp) (x1 x2 x3 x4 : Int32) : Option (Int32 × Hp) :=
 vb (x4 + 1) fun y3 =>
 k3 s x1 x2 x3 y3
def f_X10_wasListened_27 (N : Nat) (k3 : Hp → Int32 → Int32 → Int32 → Int32 → Option (Int32 × Hp)) (s : Hp) (x1 x2 x3 x4 : Int32) : Option (Int32 × Hp) :=
 ck (inR x4 100) (
 if (s 40 (ix x4)) = x2 then (
  ck (inR x4 100) (
  ck (inR x4 100) (
  bd (f_X10_isIn N s x3 (s 41 (ix x4)) (s 42 (ix x4))) fun v2 s1 =>
  if v2 = 0 then (
   f_X10_wasListened_61 N k3 s1 x1 x2 x3 x4)
  else (
   some (1, s1)))))
 else (
  f_X10_wasListened_61 N k3 s x1 x2 x3 x4))
def f_X10_wasListened_3 (N : Nat) (k3 : Hp → Int32 → Int32 → Int32 → Int32 → Option (Int32 × Hp)) (s : Hp) (x1 x2 x3 x4 : Int32) : Option (Int32 × Hp) :=
 if (s 36 3) ≤ x4 then (
  some (0, s))
 else (
  if x1 < 0 then (
   f_X10_wasListened_27 N k3 s x1 x2 x3 x4)
  else (
   ck (inR x4 100) (
   if (s 39 (ix x4)) = x1 then (
    f_X10_wasListened_27 N k3 s x1 x2 x3 x4)
   else (
    f_X10_wasListened_61 N k3 s x1 x2 x3 x4))))
def l_X10_wasListened_3 (N : Nat) : Hp → Int32 → Int32 → Int32 → Int32 → Option (Int32 × Hp) := lp (fun _ _ _ _ _ => none) (f_X10_wasListened_3 N) N
def f_X10_wasListened (N : Nat) (s : Hp) (x1 x2 x3 : Int32) : Option (Int32 × Hp) :=
 l_X10_wasListened_3 N s x1 x2 x3 0
def f_X10_mark_53 (N : Nat) (k53 : Hp → Int32 → Int32 → Int32 → Int32 → Int32 → Int32 → Option (Int32 × Hp)) (s : Hp) (x1 x2 x3 x4 x5 x6 : Int32) : Option (Int32 × Hp) :=
 if x4 < x6 then (
  ck (inR (s 36 8) 60) (sb (hset s 43 (ix (s 36 8)) x1) fun s9 =>
  ck (inR (s9 36 8) 60) (sb (hset s9 44 (ix (s9 36 8)) x2) fun s10 =>
  ck (inR (s10 36 8) 60) (sb (hset s10 45 (ix (s10 36 8)) x3) fun s11 =>
  ck (inR (s11 36 8) 60) (sb (hset s11 46 (ix (s11 36 8)) x4) fun s12 =>
  ck (inR (s12 36 8) 60) (sb (hset s12 47 (ix (s12 36 8)) x5) fun s13 =>
  sb (hset s13 36 8 ((s13 36 8) + 1)) fun s14 =>
  some ((s14 36 8) - 1, s14)))))))
 else (
  bd (f_X10_wasListened N s x1 x2 x6) fun v16 s15 =>
  if v16 = 0 then (
   some ((-1), s15))
  else (
   vb (x6 + 1) fun y17 =>
   k53 s15 x1 x2 x3 x4 x5 y17))
def l_X10_mark_53 (N : Nat) : Hp → Int32 → Int32 → Int32 → Int32 → Int32 → Int32 → Option (Int32 × Hp) := lp (fun _ _ _ _ _ _ _ => none) (f_X10_mark_53 N) N
def f_X10_mark (N : Nat) (s : Hp) (x1 x2 x3 x4 x5 : Int32) : Option (Int32 × Hp) :=
 bd (f_X10_isPost N s x1) fun v2 s1 =>
 if v2 = 0 then (
  some ((-1), s1))
 else (
  bd (f_X10_isIn N s1 x2 0 15) fun v4 s3 =>
  if v4 = 0 then (
   some ((-1), s3))
  else (
   bd (f_X10_isSpan N s3 x3 x4) fun v6 s5 =>
   if v6 = 0 then (
    some ((-1), s5))
   else (
    bd (f_X10_isIn N s5 x5 0 999) fun v8 s7 =>
    if v8 = 0 then (
     some ((-1), s7))
    else (
     if (s7 36 8) = 60 then (
      some ((-1), s7))
     else (
      l_X10_mark_53 N s7 x1 x2 x3 x4 x5 x3)))))
def f_X10_isWay_30 (N : Nat) (s : Hp) : Option (Int32 × Hp) :=
 some (1, s)
def f_X10_isWay (N : Nat) (s : Hp) (x0 x1 : Int32) : Option (Int32 × Hp) :=
 bd (f_X10_isIn N s x0 (-100) 100) fun v2 s1 =>
 if v2 = 0 then (
  some (0, s1))
 else (
  bd (f_X10_isIn N s1 x1 (-100) 100) fun v4 s3 =>
  if v4 = 0 then (
   some (0, s3))
  else (
   if x0 = 0 then (
    if x1 = 0 then (
     some (0, s3))
    else (
     f_X10_isWay_30 N s3))
   else (
    f_X10_isWay_30 N s3)))
def f_X10_wedge (N : Nat) (s : Hp) (x1 x2 x3 x4 x5 : Int32) : Option (Int32 × Hp) :=
 bd (f_X10_isIn N s x1 0 ((s 36 8) - 1)) fun v2 s1 =>
 if v2 = 0 then (
  some (0, s1))
 else (
  bd (f_X10_isWay N s1 x2 x3) fun v4 s3 =>
  if v4 = 0 then (
   some (0, s3))
  else (
   bd (f_X10_isWay N s3 x4 x5) fun v6 s5 =>
   if v6 = 0 then (
    some (0, s5))
   else (
    if 0 < ((x2 * x5) - (x3 * x4)) then (
     ck (inR x1 60) (sb (hset s5 48 (ix x1) 1) fun s7 =>
     ck (inR (4 * x1) 240) (sb (hset s7 49 (ix (4 * x1)) x2) fun s8 =>
     ck (inR ((4 * x1) + 1) 240) (sb (hset s8 49 (ix ((4 * x1) + 1)) x3) fun s9 =>
     ck (inR ((4 * x1) + 2) 240) (sb (hset s9 49 (ix ((4 * x1) + 2)) x4) fun s10 =>
     ck (inR ((4 * x1) + 3) 240) (sb (hset s10 49 (ix ((4 * x1) + 3)) x5) fun s11 =>
     some (1, s11)))))))
    else (
     some (0, s5)))))
def f_X10_joins (N : Nat) (s : Hp) (x1 x2 : Int32) : Option (Int32 × Hp) :=
 bd (f_X10_isIn N s x1 0 99) fun v2 s1 =>
 if v2 = 0 then (
  some (0, s1))
 else (
  bd (f_X10_isIn N s1 x2 0 999) fun v4 s3 =>
  if v4 = 0 then (
   some (0, s3))
  else (
   sb (hset s3 36 16 x1) fun s5 =>
   sb (hset s5 36 17 x2) fun s6 =>
   some (1, s6)))
def f_X10_isJoin_44 (N : Nat) (s : Hp) (x1 x2 t0 : Int32) : Option (Int32 × Hp) :=
 ck (inR x1 60) (
 ck (inR x2 60) (
 if (s 44 (ix x1)) = (s 44 (ix x2)) then (
  if (s 36 16) < t0 then (
   some (0, s))
  else (
   ck (inR x2 60) (
   ck (inR x1 60) (
   if (s 36 17) < ((s 45 (ix x2)) - (s 46 (ix x1))) then (
    some (0, s))
   else (
    ck (inR x1 60) (
    ck (inR x2 60) (
    if (s 36 17) < ((s 45 (ix x1)) - (s 46 (ix x2))) then (
     some (0, s))
    else (
     some (1, s)))))))))
 else (
  some (0, s))))
def f_X10_isJoin (N : Nat) (s : Hp) (x1 x2 : Int32) : Option (Int32 × Hp) :=
 ck (inR x1 60) (
 ck (inR x2 60) (
 if (s 47 (ix x1)) ≤ (s 47 (ix x2)) then (
  ck (inR x2 60) (
  ck (inR x1 60) (
  f_X10_isJoin_44 N s x1 x2 ((s 47 (ix x2)) - (s 47 (ix x1))))))
 else (
  ck (inR x1 60) (
  ck (inR x2 60) (
  f_X10_isJoin_44 N s x1 x2 ((s 47 (ix x1)) - (s 47 (ix x2))))))))
def f_X10_spreads_70 (N : Nat) (k4 : Hp → Int32 → Int32 → Int32 → Option (Int32 × Hp)) (k28 : Hp → Int32 → Int32 → Int32 → Int32 → Option (Int32 × Hp)) (s : Hp) (x1 x2 x3 x4 : Int32) : Option (Int32 × Hp) :=
 vb (x4 + 1) fun y5 =>
 k28 s x1 x2 x3 y5
def f_X10_spreads_76 (N : Nat) (k4 : Hp → Int32 → Int32 → Int32 → Option (Int32 × Hp)) (s : Hp) (x1 x2 x3 : Int32) : Option (Int32 × Hp) :=
 vb (x3 + 1) fun y4 =>
 k4 s x1 x2 y4
def f_X10_spreads_28 (N : Nat) (k4 : Hp → Int32 → Int32 → Int32 → Option (Int32 × Hp)) (k28 : Hp → Int32 → Int32 → Int32 → Int32 → Option (Int32 × Hp)) (s : Hp) (x1 x2 x3 x4 : Int32) : Option (Int32 × Hp) :=
 if (s 36 8) ≤ x4 then (
  f_X10_spreads_76 N k4 s x1 x2 x3)
 else (
  ck (inR x4 60) (
  if 0 ≤ (s 50 (ix x4)) then (
   f_X10_spreads_70 N k4 k28 s x1 x2 x3 x4)
  else (
   bd (f_X10_isJoin N s x3 x4) fun v2 s1 =>
   if v2 = 0 then (
    f_X10_spreads_70 N k4 k28 s1 x1 x2 x3 x4)
   else (
    ck (inR x4 60) (sb (hset s1 50 (ix x4) x1) fun s3 =>
    f_X10_spreads_70 N k4 k28 s3 x1 1 x3 x4)))))
def l_X10_spreads_28 (N : Nat) (k4 : Hp → Int32 → Int32 → Int32 → Option (Int32 × Hp)) : Hp → Int32 → Int32 → Int32 → Int32 → Option (Int32 × Hp) := lp (fun _ _ _ _ _ => none) (f_X10_spreads_28 N k4) N
def f_X10_spreads_4 (N : Nat) (k4 : Hp → Int32 → Int32 → Int32 → Option (Int32 × Hp)) (s : Hp) (x1 x2 x3 : Int32) : Option (Int32 × Hp) :=
 if (s 36 8) ≤ x3 then (
  ck (isB x2) (some (x2, s)))
 else (
  ck (inR x3 60) (
  if (s 50 (ix x3)) = x1 then (
   l_X10_spreads_28 N k4 s x1 x2 x3 0)
  else (
   f_X10_spreads_76 N k4 s x1 x2 x3)))
def l_X10_spreads_4 (N : Nat) : Hp → Int32 → Int32 → Int32 → Option (Int32 × Hp) := lp (fun _ _ _ _ => none) (f_X10_spreads_4 N) N
def f_X10_spreads (N : Nat) (s : Hp) (x1 : Int32) : Option (Int32 × Hp) :=
 l_X10_spreads_4 N s x1 0 0
def f_X10_join_98 (N : Nat) (k30 : Hp → Int32 → Option (Int32 × Hp)) (s : Hp) (x1 : Int32) : Option (Int32 × Hp) :=
 vb (x1 + 1) fun y9 =>
 k30 s y9
def f_X10_join_72 (N : Nat) (k30 : Hp → Int32 → Option (Int32 × Hp)) (k72 : Hp → Int32 → Int32 → Option (Int32 × Hp)) (s : Hp) (x1 x2 : Int32) : Option (Int32 × Hp) :=
 if x2 = 0 then (
  sb (hset s 36 18 ((s 36 18) + 1)) fun s6 =>
  f_X10_join_98 N k30 s6 x1)
 else (
  bd (f_X10_spreads N s (s 36 18)) fun v8 s7 =>
  k72 s7 x1 v8)
def l_X10_join_72 (N : Nat) (k30 : Hp → Int32 → Option (Int32 × Hp)) : Hp → Int32 → Int32 → Option (Int32 × Hp) := lp (fun _ _ _ => none) (f_X10_join_72 N k30) N
def f_X10_join_30 (N : Nat) (k30 : Hp → Int32 → Option (Int32 × Hp)) (s : Hp) (x1 : Int32) : Option (Int32 × Hp) :=
 if (s 36 8) ≤ x1 then (
  some (0, s))
 else (
  ck (inR x1 60) (
  if (s 50 (ix x1)) < 0 then (
   ck (inR x1 60) (sb (hset s 50 (ix x1) (s 36 18)) fun s4 =>
   ck (inR (s4 36 18) 60) (sb (hset s4 51 (ix (s4 36 18)) x1) fun s5 =>
   l_X10_join_72 N k30 s5 x1 1)))
  else (
   f_X10_join_98 N k30 s x1)))
def l_X10_join_30 (N : Nat) : Hp → Int32 → Option (Int32 × Hp) := lp (fun _ _ => none) (f_X10_join_30 N) N
def f_X10_join_7 (N : Nat) (k7 : Hp → Int32 → Option (Int32 × Hp)) (s : Hp) (x1 : Int32) : Option (Int32 × Hp) :=
 if (s 36 8) ≤ x1 then (
  l_X10_join_30 N s 0)
 else (
  ck (inR x1 60) (sb (hset s 50 (ix x1) (-1)) fun s2 =>
  vb (x1 + 1) fun y3 =>
  k7 s2 y3))
def l_X10_join_7 (N : Nat) : Hp → Int32 → Option (Int32 × Hp) := lp (fun _ _ => none) (f_X10_join_7 N) N
def f_X10_join (N : Nat) (s : Hp) : Option (Int32 × Hp) :=
 sb (hset s 36 18 0) fun s1 =>
 l_X10_join_7 N s1 0
def f_X10_senders (N : Nat) (s : Hp) : Option (Int32 × Hp) :=
 bd (f_X10_join N s) fun v2 s1 =>
 some (s1 36 18, s1)
def f_X10_senderOf (N : Nat) (s : Hp) (x1 : Int32) : Option (Int32 × Hp) :=
 bd (f_X10_isIn N s x1 0 ((s 36 8) - 1)) fun v2 s1 =>
 if v2 = 0 then (
  some ((-1), s1))
 else (
  bd (f_X10_join N s1) fun v4 s3 =>
  ck (inR x1 60) (
  some (s3 50 (ix x1), s3)))
def f_X10_isSender (N : Nat) (s : Hp) (x1 : Int32) : Option (Int32 × Hp) :=
 bd (f_X10_join N s) fun v2 s1 =>
 bd (f_X10_isIn N s1 x1 0 ((s1 36 18) - 1)) fun v4 s3 =>
 ck (isB v4) (some (v4, s3))
def f_X10_liesIn (N : Nat) (s : Hp) (x1 x2 x3 : Int32) : Option (Int32 × Hp) :=
 ck (inR x1 60) (
 ck (inR (s 43 (ix x1)) 6) (
 vb (x2 - (s 37 (ix (s 43 (ix x1))))) fun y1 =>
 ck (inR x1 60) (
 ck (inR (s 43 (ix x1)) 6) (
 vb (x3 - (s 38 (ix (s 43 (ix x1))))) fun y2 =>
 ck (inR (4 * x1) 240) (
 ck (inR ((4 * x1) + 1) 240) (
 if (((s 49 (ix (4 * x1))) * y2) - ((s 49 (ix ((4 * x1) + 1))) * y1)) < 0 then (
  some (0, s))
 else (
  ck (inR ((4 * x1) + 3) 240) (
  ck (inR ((4 * x1) + 2) 240) (
  if ((y1 * (s 49 (ix ((4 * x1) + 3)))) - (y2 * (s 49 (ix ((4 * x1) + 2))))) < 0 then (
   some (0, s))
  else (
   some (1, s)))))))))))
def f_X10_isPlace_47 (N : Nat) (k2 : Hp → Int32 → Int32 → Int32 → Option (Int32 × Hp)) (s : Hp) (x1 x2 x3 : Int32) : Option (Int32 × Hp) :=
 vb (x3 + 1) fun y3 =>
 k2 s x1 x2 y3
def f_X10_isPlace_2 (N : Nat) (k2 : Hp → Int32 → Int32 → Int32 → Option (Int32 × Hp)) (s : Hp) (x1 x2 x3 : Int32) : Option (Int32 × Hp) :=
 if (s 36 8) ≤ x3 then (
  some (1, s))
 else (
  ck (inR x3 60) (
  if (s 50 (ix x3)) = x1 then (
   ck (inR x3 60) (
   if (s 48 (ix x3)) = 0 then (
    f_X10_isPlace_47 N k2 s x1 x2 x3)
   else (
    bd (f_X10_liesIn N s x3 (irm x2 32) (x2 / 32)) fun v2 s1 =>
    if v2 = 0 then (
     some (0, s1))
    else (
     f_X10_isPlace_47 N k2 s1 x1 x2 x3))))
  else (
   f_X10_isPlace_47 N k2 s x1 x2 x3)))
def l_X10_isPlace_2 (N : Nat) : Hp → Int32 → Int32 → Int32 → Option (Int32 × Hp) := lp (fun _ _ _ _ => none) (f_X10_isPlace_2 N) N
def f_X10_isPlace (N : Nat) (s : Hp) (x1 x2 : Int32) : Option (Int32 × Hp) :=
 l_X10_isPlace_2 N s x1 x2 0
def f_X10_sender_82 (N : Nat) (k57 : Hp → Int32 → Int32 → Int32 → Option (Int32 × Hp)) (s : Hp) (x1 x5 t0 t1 : Int32) : Option (Int32 × Hp) :=
 vb (t0 + t1) fun y10 =>
 vb (x5 + 1) fun y11 =>
 k57 s x1 y10 y11
def f_X10_sender_57 (N : Nat) (k57 : Hp → Int32 → Int32 → Int32 → Option (Int32 × Hp)) (s : Hp) (x1 x4 x5 : Int32) : Option (Int32 × Hp) :=
 if 1024 ≤ x5 then (
  some (x4, s))
 else (
  bd (f_X10_isPlace N s x1 x5) fun v7 s6 =>
  if v7 = 0 then (
   f_X10_sender_82 N k57 s6 x1 x5 x4 0)
  else (
   f_X10_sender_82 N k57 s6 x1 x5 x4 1))
def l_X10_sender_57 (N : Nat) : Hp → Int32 → Int32 → Int32 → Option (Int32 × Hp) := lp (fun _ _ _ _ => none) (f_X10_sender_57 N) N
def f_X10_sender_246 (N : Nat) (k136 : Hp → Int32 → Int32 → Int32 → Int32 → Int32 → Int32 → Option (Int32 × Hp)) (s : Hp) (x1 x2 x4 x5 x6 x7 : Int32) : Option (Int32 × Hp) :=
 vb (x7 + 1) fun y14 =>
 k136 s x1 x2 x4 x5 x6 y14
def f_X10_sender_242 (N : Nat) (k136 : Hp → Int32 → Int32 → Int32 → Int32 → Int32 → Int32 → Option (Int32 × Hp)) (s : Hp) (x1 x2 x4 x5 x7 x8 : Int32) : Option (Int32 × Hp) :=
 f_X10_sender_246 N k136 s x1 x2 x4 x5 x8 x7
def f_X10_sender_225 (N : Nat) (k136 : Hp → Int32 → Int32 → Int32 → Int32 → Int32 → Int32 → Option (Int32 × Hp)) (s : Hp) (x1 x2 x4 x5 x6 x7 x8 : Int32) : Option (Int32 × Hp) :=
 if x6 ≤ x8 then (
  f_X10_sender_246 N k136 s x1 x2 x4 x5 x6 x7)
 else (
  f_X10_sender_242 N k136 s x1 x2 x4 x5 x7 x8)
def f_X10_sender_213 (N : Nat) (k136 : Hp → Int32 → Int32 → Int32 → Int32 → Int32 → Int32 → Option (Int32 × Hp)) (s : Hp) (x1 x2 x4 x5 x6 x7 t0 : Int32) : Option (Int32 × Hp) :=
 if x2 = 3 then (
  f_X10_sender_225 N k136 s x1 x2 x4 x5 x6 x7 t0)
 else (
  if x2 = 5 then (
   f_X10_sender_225 N k136 s x1 x2 x4 x5 x6 x7 t0)
  else (
   if t0 ≤ x6 then (
    f_X10_sender_246 N k136 s x1 x2 x4 x5 x6 x7)
   else (
    f_X10_sender_242 N k136 s x1 x2 x4 x5 x7 t0)))
def f_X10_sender_275 (N : Nat) (k275 : Hp → Int32 → Int32 → Int32 → Option (Int32 × Hp)) (s : Hp) (x5 x7 x8 : Int32) : Option (Int32 × Hp) :=
 if (s 36 0) ≤ x8 then (
  some (x7, s))
 else (
  vb (x7 + ((x5 >>> (x8 &&& 31)) &&& 1)) fun y12 =>
  vb (x8 + 1) fun y13 =>
  k275 s x5 y12 y13)
def l_X10_sender_275 (N : Nat) : Hp → Int32 → Int32 → Int32 → Option (Int32 × Hp) := lp (fun _ _ _ _ => none) (f_X10_sender_275 N) N
def f_X10_sender_136 (N : Nat) (k136 : Hp → Int32 → Int32 → Int32 → Int32 → Int32 → Int32 → Option (Int32 × Hp)) (s : Hp) (x1 x2 x4 x5 x6 x7 : Int32) : Option (Int32 × Hp) :=
 if (s 36 8) ≤ x7 then (
  if x2 = 1 then (
   some (x4, s))
  else (
   if x2 = 8 then (
    l_X10_sender_275 N s x5 0 0)
   else (
    some (x6, s))))
 else (
  ck (inR x7 60) (
  if (s 50 (ix x7)) = x1 then (
   vb (x4 + 1) fun y8 =>
   ck (inR x7 60) (
   vb (x5 ||| (1 <<< ((s 43 (ix x7)) &&& 31))) fun y9 =>
   if x2 = 3 then (
    ck (inR x7 60) (
    f_X10_sender_213 N k136 s x1 x2 y8 y9 x6 x7 (s 45 (ix x7))))
   else (
    if x2 = 4 then (
     ck (inR x7 60) (
     f_X10_sender_213 N k136 s x1 x2 y8 y9 x6 x7 (s 46 (ix x7))))
    else (
     ck (inR x7 60) (
     f_X10_sender_213 N k136 s x1 x2 y8 y9 x6 x7 (s 47 (ix x7)))))))
  else (
   f_X10_sender_246 N k136 s x1 x2 x4 x5 x6 x7)))
def l_X10_sender_136 (N : Nat) : Hp → Int32 → Int32 → Int32 → Int32 → Int32 → Int32 → Option (Int32 × Hp) := lp (fun _ _ _ _ _ _ _ => none) (f_X10_sender_136 N) N
def f_X10_sender_131 (N : Nat) (s : Hp) (x1 x2 x4 x5 t0 : Int32) : Option (Int32 × Hp) :=
 l_X10_sender_136 N s x1 x2 x4 x5 t0 0
def f_X10_sender (N : Nat) (s : Hp) (x1 x2 : Int32) : Option (Int32 × Hp) :=
 bd (f_X10_isSender N s x1) fun v2 s1 =>
 if v2 = 0 then (
  some ((-1), s1))
 else (
  bd (f_X10_isIn N s1 x2 0 8) fun v4 s3 =>
  if v4 = 0 then (
   some ((-1), s3))
  else (
   ck (inR x1 60) (
   vb (s3 51 (ix x1)) fun y5 =>
   if x2 = 0 then (
    some (y5, s3))
   else (
    if x2 = 2 then (
     ck (inR y5 60) (
     some (s3 44 (ix y5), s3)))
    else (
     if x2 = 7 then (
      l_X10_sender_57 N s3 x1 0 0)
     else (
      if x2 = 3 then (
       ck (inR y5 60) (
       f_X10_sender_131 N s3 x1 x2 0 0 (s3 45 (ix y5))))
      else (
       if x2 = 4 then (
        ck (inR y5 60) (
        f_X10_sender_131 N s3 x1 x2 0 0 (s3 46 (ix y5))))
       else (
        ck (inR y5 60) (
        f_X10_sender_131 N s3 x1 x2 0 0 (s3 47 (ix y5)))))))))))
def f_X10_place_50 (N : Nat) (k19 : Hp → Int32 → Int32 → Int32 → Option (Int32 × Hp)) (s : Hp) (x1 x3 x4 : Int32) : Option (Int32 × Hp) :=
 vb (x4 + 1) fun y6 =>
 k19 s x1 x3 y6
def f_X10_place_19 (N : Nat) (k19 : Hp → Int32 → Int32 → Int32 → Option (Int32 × Hp)) (s : Hp) (x1 x3 x4 : Int32) : Option (Int32 × Hp) :=
 if 1024 ≤ x4 then (
  some ((-1), s))
 else (
  bd (f_X10_isPlace N s x1 x4) fun v4 s3 =>
  if v4 = 0 then (
   f_X10_place_50 N k19 s3 x1 x3 x4)
  else (
   if x3 = 0 then (
    some (x4, s3))
   else (
    vb (x3 + (-1)) fun y5 =>
    f_X10_place_50 N k19 s3 x1 y5 x4)))
def l_X10_place_19 (N : Nat) : Hp → Int32 → Int32 → Int32 → Option (Int32 × Hp) := lp (fun _ _ _ _ => none) (f_X10_place_19 N) N
def f_X10_place (N : Nat) (s : Hp) (x1 x2 : Int32) : Option (Int32 × Hp) :=
 bd (f_X10_isSender N s x1) fun v2 s1 =>
 if v2 = 0 then (
  some ((-1), s1))
 else (
  if 0 ≤ x2 then (
   l_X10_place_19 N s1 x1 x2 0)
  else (
   some ((-1), s1)))
def f_X10_box_93 (N : Nat) (k24 : Hp → Int32 → Int32 → Int32 → Int32 → Option (Int32 × Hp)) (s : Hp) (x1 x2 x3 x4 : Int32) : Option (Int32 × Hp) :=
 vb (x4 + 1) fun y7 =>
 k24 s x1 x2 x3 y7
def f_X10_box_90 (N : Nat) (k24 : Hp → Int32 → Int32 → Int32 → Int32 → Option (Int32 × Hp)) (s : Hp) (x1 x2 x4 x5 : Int32) : Option (Int32 × Hp) :=
 f_X10_box_93 N k24 s x1 x2 x5 x4
def f_X10_box_63 (N : Nat) (k24 : Hp → Int32 → Int32 → Int32 → Int32 → Option (Int32 × Hp)) (s : Hp) (x1 x2 x3 x4 t0 : Int32) : Option (Int32 × Hp) :=
 if x3 < 0 then (
  f_X10_box_90 N k24 s x1 x2 x4 t0)
 else (
  if (irm x2 2) = 0 then (
   if x3 ≤ t0 then (
    f_X10_box_93 N k24 s x1 x2 x3 x4)
   else (
    f_X10_box_90 N k24 s x1 x2 x4 t0))
  else (
   if t0 ≤ x3 then (
    f_X10_box_93 N k24 s x1 x2 x3 x4)
   else (
    f_X10_box_90 N k24 s x1 x2 x4 t0)))
def f_X10_box_24 (N : Nat) (k24 : Hp → Int32 → Int32 → Int32 → Int32 → Option (Int32 × Hp)) (s : Hp) (x1 x2 x3 x4 : Int32) : Option (Int32 × Hp) :=
 if 1024 ≤ x4 then (
  some (x3, s))
 else (
  bd (f_X10_isPlace N s x1 x4) fun v6 s5 =>
  if v6 = 0 then (
   f_X10_box_93 N k24 s5 x1 x2 x3 x4)
  else (
   if 2 ≤ x2 then (
    f_X10_box_63 N k24 s5 x1 x2 x3 x4 (x4 / 32))
   else (
    f_X10_box_63 N k24 s5 x1 x2 x3 x4 (irm x4 32))))
def l_X10_box_24 (N : Nat) : Hp → Int32 → Int32 → Int32 → Int32 → Option (Int32 × Hp) := lp (fun _ _ _ _ _ => none) (f_X10_box_24 N) N
def f_X10_box (N : Nat) (s : Hp) (x1 x2 : Int32) : Option (Int32 × Hp) :=
 bd (f_X10_isSender N s x1) fun v2 s1 =>
 if v2 = 0 then (
  some ((-1), s1))
 else (
  bd (f_X10_isIn N s1 x2 0 3) fun v4 s3 =>
  if v4 = 0 then (
   some ((-1), s3))
  else (
   l_X10_box_24 N s3 x1 x2 (-1) 0))
def f_X10_sortOf_41 (N : Nat) (k2 : Hp → Int32 → Int32 → Int32 → Option (Int32 × Hp)) (s : Hp) (x1 x2 x3 : Int32) : Option (Int32 × Hp) :=
 vb (x3 + 1) fun y5 =>
 k2 s x1 x2 y5
def f_X10_sortOf_2 (N : Nat) (k2 : Hp → Int32 → Int32 → Int32 → Option (Int32 × Hp)) (s : Hp) (x1 x2 x3 : Int32) : Option (Int32 × Hp) :=
 if (s 36 8) ≤ x3 then (
  bd (f_X10_wasListened N s (-1) x1 x2) fun v2 s1 =>
  if v2 = 0 then (
   some (2, s1))
  else (
   some (1, s1)))
 else (
  ck (inR x3 60) (
  if (s 44 (ix x3)) = x1 then (
   ck (inR x3 60) (
   ck (inR x3 60) (
   bd (f_X10_isIn N s x2 (s 45 (ix x3)) (s 46 (ix x3))) fun v4 s3 =>
   if v4 = 0 then (
    f_X10_sortOf_41 N k2 s3 x1 x2 x3)
   else (
    some (0, s3)))))
  else (
   f_X10_sortOf_41 N k2 s x1 x2 x3)))
def l_X10_sortOf_2 (N : Nat) : Hp → Int32 → Int32 → Int32 → Option (Int32 × Hp) := lp (fun _ _ _ _ => none) (f_X10_sortOf_2 N) N
def f_X10_sortOf (N : Nat) (s : Hp) (x1 x2 : Int32) : Option (Int32 × Hp) :=
 l_X10_sortOf_2 N s x1 x2 0
def f_X10_minutes_61 (N : Nat) (k36 : Hp → Int32 → Int32 → Int32 → Int32 → Int32 → Option (Int32 × Hp)) (s : Hp) (x1 x3 x4 x6 t0 t1 : Int32) : Option (Int32 × Hp) :=
 vb (t0 + t1) fun y9 =>
 vb (x6 + 1) fun y10 =>
 k36 s x1 x3 x4 y9 y10
def f_X10_minutes_36 (N : Nat) (k36 : Hp → Int32 → Int32 → Int32 → Int32 → Int32 → Option (Int32 × Hp)) (s : Hp) (x1 x3 x4 x5 x6 : Int32) : Option (Int32 × Hp) :=
 if x3 < x6 then (
  some (x5, s))
 else (
  bd (f_X10_sortOf N s x1 x6) fun v8 s7 =>
  if v8 = x4 then (
   f_X10_minutes_61 N k36 s7 x1 x3 x4 x6 x5 1)
  else (
   f_X10_minutes_61 N k36 s7 x1 x3 x4 x6 x5 0))
def l_X10_minutes_36 (N : Nat) : Hp → Int32 → Int32 → Int32 → Int32 → Int32 → Option (Int32 × Hp) := lp (fun _ _ _ _ _ _ => none) (f_X10_minutes_36 N) N
def f_X10_minutes (N : Nat) (s : Hp) (x1 x2 x3 x4 : Int32) : Option (Int32 × Hp) :=
 bd (f_X10_isIn N s x1 0 15) fun v2 s1 =>
 if v2 = 0 then (
  some ((-1), s1))
 else (
  bd (f_X10_isSpan N s1 x2 x3) fun v4 s3 =>
  if v4 = 0 then (
   some ((-1), s3))
  else (
   bd (f_X10_isIn N s3 x4 0 2) fun v6 s5 =>
   if v6 = 0 then (
    some ((-1), s5))
   else (
    l_X10_minutes_36 N s5 x1 x3 x4 0 x2)))
def f_X10_blind_67 (N : Nat) (k29 : Hp → Int32 → Int32 → Int32 → Int32 → Int32 → Option (Int32 × Hp)) (s : Hp) (x1 x3 x4 x5 x6 : Int32) : Option (Int32 × Hp) :=
 vb (x6 + 1) fun y7 =>
 k29 s x1 x3 x4 x5 y7
def f_X10_blind_54 (N : Nat) (k29 : Hp → Int32 → Int32 → Int32 → Int32 → Int32 → Option (Int32 × Hp)) (s : Hp) (x1 x3 x4 x6 t0 : Int32) : Option (Int32 × Hp) :=
 if t0 ≤ x4 then (
  f_X10_blind_67 N k29 s x1 x3 x4 t0 x6)
 else (
  f_X10_blind_67 N k29 s x1 x3 t0 t0 x6)
def f_X10_blind_29 (N : Nat) (k29 : Hp → Int32 → Int32 → Int32 → Int32 → Int32 → Option (Int32 × Hp)) (s : Hp) (x1 x3 x4 x5 x6 : Int32) : Option (Int32 × Hp) :=
 if x3 < x6 then (
  some (x4, s))
 else (
  bd (f_X10_sortOf N s x1 x6) fun v6 s5 =>
  if v6 = 2 then (
   f_X10_blind_54 N k29 s5 x1 x3 x4 x6 (x5 + 1))
  else (
   f_X10_blind_54 N k29 s5 x1 x3 x4 x6 0))
def l_X10_blind_29 (N : Nat) : Hp → Int32 → Int32 → Int32 → Int32 → Int32 → Option (Int32 × Hp) := lp (fun _ _ _ _ _ _ => none) (f_X10_blind_29 N) N
def f_X10_blind (N : Nat) (s : Hp) (x1 x2 x3 : Int32) : Option (Int32 × Hp) :=
 bd (f_X10_isIn N s x1 0 15) fun v2 s1 =>
 if v2 = 0 then (
  some ((-1), s1))
 else (
  bd (f_X10_isSpan N s1 x2 x3) fun v4 s3 =>
  if v4 = 0 then (
   some ((-1), s3))
  else (
   l_X10_blind_29 N s3 x1 x3 0 0 x2))
def f_X10_four_3 (N : Nat) (k3 : Hp → Int32 → Int32 → Option (Int32 × Hp)) (s : Hp) (x1 x2 : Int32) : Option (Int32 × Hp) :=
 if x2 < 0 then (
  some (0, s))
 else (
  ck (inR (s 36 22) 100) (sb (hset s 52 (ix (s 36 22)) ((x1 >>> (x2 &&& 31)) &&& 255)) fun s1 =>
  sb (hset s1 36 22 ((s1 36 22) + 1)) fun s2 =>
  vb (x2 + (-8)) fun y3 =>
  k3 s2 x1 y3))
def l_X10_four_3 (N : Nat) : Hp → Int32 → Int32 → Option (Int32 × Hp) := lp (fun _ _ _ => none) (f_X10_four_3 N) N
def f_X10_four (N : Nat) (s : Hp) (x1 : Int32) : Option (Int32 × Hp) :=
 l_X10_four_3 N s x1 24
def f_X10_feed (N : Nat) (s : Hp) (x1 x2 x3 x4 x5 : Int32) : Option (Int32 × Hp) :=
 if ((s 36 22) + 20) ≤ 100 then (
  bd (f_X10_four N s x1) fun v2 s1 =>
  bd (f_X10_four N s1 x2) fun v4 s3 =>
  bd (f_X10_four N s3 x3) fun v6 s5 =>
  bd (f_X10_four N s5 x4) fun v8 s7 =>
  bd (f_X10_four N s7 x5) fun v10 s9 =>
  some (s9 36 22, s9))
 else (
  some ((-1), s))
def f_X10_end (N : Nat) (s : Hp) (x1 : Int32) : Option (Int32 × Hp) :=
 bd (f_X10_isIn N s x1 0 (s 36 22)) fun v2 s1 =>
 if v2 = 0 then (
  some ((-1), s1))
 else (
  sb (hset s1 36 22 x1) fun s3 =>
  some (x1, s3))
def f_X10_see (N : Nat) (s : Hp) (x1 : Int32) : Option (Int32 × Hp) :=
 if (s 36 22) ≤ x1 then (
  some ((-1), s))
 else (
  ck (inR x1 100) (
  some (s 52 (ix x1), s)))
def f_X10_isDigit (N : Nat) (s : Hp) (x0 : Int32) : Option (Int32 × Hp) :=
 bd (f_X10_isIn N s x0 48 57) fun v2 s1 =>
 ck (isB v2) (some (v2, s1))
def f_X10_isLetter_22 (N : Nat) (s : Hp) : Option (Int32 × Hp) :=
 some (1, s)
def f_X10_isLetter (N : Nat) (s : Hp) (x0 : Int32) : Option (Int32 × Hp) :=
 bd (f_X10_isIn N s x0 97 122) fun v2 s1 =>
 if v2 = 0 then (
  bd (f_X10_isIn N s1 x0 65 90) fun v4 s3 =>
  if v4 = 0 then (
   some (0, s3))
  else (
   f_X10_isLetter_22 N s3))
 else (
  f_X10_isLetter_22 N s1)
def f_X10_pack (N : Nat) (s : Hp) (x0 x1 x2 x3 : Int32) : Option (Int32 × Hp) :=
 some ((((((x0 <<< (7 &&& 31)) ||| x1) <<< (7 &&& 31)) ||| x2) <<< (7 &&& 31)) ||| x3, s)
def f_X10_wordOf (N : Nat) (s : Hp) (x0 : Int32) : Option (Int32 × Hp) :=
 bd (f_X10_pack N s 99 104 97 110) fun v2 s1 =>
 if x0 = v2 then (
  some (5, s1))
 else (
  bd (f_X10_pack N s1 116 105 109 101) fun v4 s3 =>
  if x0 = v4 then (
   some (6, s3))
  else (
   bd (f_X10_pack N s3 116 111 110 101) fun v6 s5 =>
   if x0 = v6 then (
    some (7, s5))
   else (
    bd (f_X10_pack N s5 0 98 111 120) fun v8 s7 =>
    if x0 = v8 then (
     some (8, s7))
    else (
     some (4, s7)))))
def f_X10_nextToken_118 (N : Nat) (k72 : Hp → Option (Int32 × Hp)) (s : Hp) : Option (Int32 × Hp) :=
 sb (hset s 36 27 ((s 36 27) + 1)) fun s34 =>
 k72 s34
def f_X10_nextToken_72 (N : Nat) (k72 : Hp → Option (Int32 × Hp)) (s : Hp) : Option (Int32 × Hp) :=
 bd (f_X10_see N s (s 36 27)) fun v26 s25 =>
 bd (f_X10_isDigit N s25 v26) fun v28 s27 =>
 if v28 = 0 then (
  some (0, s27))
 else (
  if 100000 ≤ (s27 36 30) then (
   f_X10_nextToken_118 N k72 s27)
  else (
   bd (f_X10_see N s27 (s27 36 27)) fun v30 s29 =>
   sb (hset s29 36 30 (((10 * (s27 36 30)) + v30) - 48)) fun s31 =>
   f_X10_nextToken_118 N k72 s31))
def l_X10_nextToken_72 (N : Nat) : Hp → Option (Int32 × Hp) := lp (fun _ => none) (f_X10_nextToken_72 N) N
def f_X10_nextToken_181 (N : Nat) (k140 : Hp → Int32 → Option (Int32 × Hp)) (s : Hp) (x2 : Int32) : Option (Int32 × Hp) :=
 sb (hset s 36 27 ((s 36 27) + 1)) fun s33 =>
 k140 s33 x2
def f_X10_nextToken_216 (N : Nat) (s : Hp) (t1 : Int32) : Option (Int32 × Hp) :=
 sb (hset s 36 29 t1) fun s32 =>
 some (0, s32)
def f_X10_nextToken_140 (N : Nat) (k140 : Hp → Int32 → Option (Int32 × Hp)) (s : Hp) (x2 : Int32) : Option (Int32 × Hp) :=
 bd (f_X10_see N s (s 36 27)) fun v17 s16 =>
 bd (f_X10_isLetter N s16 v17) fun v19 s18 =>
 if v19 = 0 then (
  if ((s18 36 27) - (s18 36 28)) ≤ 4 then (
   bd (f_X10_wordOf N s18 x2) fun v21 s20 =>
   f_X10_nextToken_216 N s20 v21)
  else (
   f_X10_nextToken_216 N s18 4))
 else (
  if 4 ≤ ((s18 36 27) - (s18 36 28)) then (
   f_X10_nextToken_181 N k140 s18 x2)
  else (
   bd (f_X10_see N s18 (s18 36 27)) fun v23 s22 =>
   vb ((x2 <<< (7 &&& 31)) ||| v23) fun y24 =>
   f_X10_nextToken_181 N k140 s22 y24))
def l_X10_nextToken_140 (N : Nat) : Hp → Int32 → Option (Int32 × Hp) := lp (fun _ _ => none) (f_X10_nextToken_140 N) N
def f_X10_nextToken_244 (N : Nat) (s : Hp) (t1 : Int32) : Option (Int32 × Hp) :=
 sb (hset s 36 29 t1) fun s14 =>
 sb (hset s14 36 27 ((s14 36 27) + 1)) fun s15 =>
 some (0, s15)
def f_X10_nextToken_0 (N : Nat) (k0 : Hp → Option (Int32 × Hp)) (s : Hp) : Option (Int32 × Hp) :=
 bd (f_X10_see N s (s 36 27)) fun v2 s1 =>
 if v2 = 32 then (
  sb (hset s1 36 27 ((s1 36 27) + 1)) fun s13 =>
  k0 s13)
 else (
  sb (hset s1 36 28 (s1 36 27)) fun s3 =>
  bd (f_X10_see N s3 (s3 36 27)) fun v5 s4 =>
  if 0 ≤ v5 then (
   bd (f_X10_isDigit N s4 v5) fun v7 s6 =>
   if v7 = 0 then (
    bd (f_X10_isLetter N s6 v5) fun v9 s8 =>
    if v9 = 0 then (
     if v5 = 59 then (
      f_X10_nextToken_244 N s8 2)
     else (
      if v5 = 45 then (
       f_X10_nextToken_244 N s8 3)
      else (
       f_X10_nextToken_244 N s8 4)))
    else (
     l_X10_nextToken_140 N s8 0))
   else (
    sb (hset s6 36 29 1) fun s10 =>
    sb (hset s10 36 30 0) fun s11 =>
    l_X10_nextToken_72 N s11))
  else (
   sb (hset s4 36 29 0) fun s12 =>
   some (0, s12)))
def l_X10_nextToken_0 (N : Nat) : Hp → Option (Int32 × Hp) := lp (fun _ => none) (f_X10_nextToken_0 N) N
def f_X10_nextToken (N : Nat) (s : Hp) : Option (Int32 × Hp) := l_X10_nextToken_0 N s
def f_X10_span_77 (N : Nat) (s : Hp) (x1 x4 : Int32) : Option (Int32 × Hp) :=
 ck (inR (100 + x1) 110) (sb (hset s 53 (ix (100 + x1)) x4) fun s6 =>
 ck (inR (101 + x1) 110) (sb (hset s6 53 (ix (101 + x1)) (s6 36 30)) fun s7 =>
 bd (f_X10_nextToken N s7) fun v9 s8 =>
 some (0, s8)))
def f_X10_span (N : Nat) (s : Hp) (x1 x2 x3 : Int32) : Option (Int32 × Hp) :=
 if (s 36 29) = 1 then (
  if (s 36 30) ≤ x2 then (
   vb (s 36 30) fun y1 =>
   bd (f_X10_nextToken N s) fun v3 s2 =>
   if (s2 36 29) = 3 then (
    bd (f_X10_nextToken N s2) fun v5 s4 =>
    if (s4 36 29) = 1 then (
     if x2 < (s4 36 30) then (
      some (3, s4))
     else (
      if y1 ≤ (s4 36 30) then (
       f_X10_span_77 N s4 x1 y1)
      else (
       if x3 = 0 then (
        some (3, s4))
       else (
        f_X10_span_77 N s4 x1 y1))))
    else (
     some (1, s4)))
   else (
    some (1, s2)))
  else (
   some (3, s)))
 else (
  some (1, s))
def f_X10_clause (N : Nat) (s : Hp) (x1 : Int32) : Option (Int32 × Hp) :=
 if x1 = 5 then (
  bd (f_X10_span N s 0 15 0) fun v10 s9 =>
  some (v10, s9))
 else (
  if x1 = 6 then (
   bd (f_X10_span N s 2 1439 1) fun v8 s7 =>
   some (v8, s7))
  else (
   if x1 = 7 then (
    bd (f_X10_span N s 4 999 0) fun v6 s5 =>
    some (v6, s5))
   else (
    bd (f_X10_span N s 6 31 0) fun v2 s1 =>
    if v2 = 0 then (
     bd (f_X10_span N s1 8 31 0) fun v4 s3 =>
     some (v4, s3))
    else (
     some (v2, s1)))))
def f_X10_read_62 (N : Nat) (k4 : Hp → Int32 → Int32 → Option (Int32 × Hp)) (s : Hp) (x1 x2 t1 t2 : Int32) : Option (Int32 × Hp) :=
 ck (inR t1 110) (sb (hset s 53 (ix t1) t2) fun s12 =>
 vb (x2 + 1) fun y13 =>
 k4 s12 x1 y13)
def f_X10_read_78 (N : Nat) (k78 : Hp → Int32 → Option (Int32 × Hp)) (s : Hp) (x1 : Int32) : Option (Int32 × Hp) :=
 if (s 36 29) = 0 then (
  some (0, s))
 else (
  vb (s 36 29) fun y4 =>
  if 5 ≤ y4 then (
   if ((x1 >>> (y4 &&& 31)) &&& 1) = 1 then (
    some (2, s))
   else (
    vb (x1 ||| (1 <<< (y4 &&& 31))) fun y5 =>
    bd (f_X10_nextToken N s) fun v7 s6 =>
    bd (f_X10_clause N s6 y4) fun v9 s8 =>
    if v9 = 0 then (
     if (s8 36 29) = 2 then (
      bd (f_X10_nextToken N s8) fun v11 s10 =>
      k78 s10 y5)
     else (
      some (1, s8)))
    else (
     some (v9, s8))))
  else (
   some (1, s)))
def l_X10_read_78 (N : Nat) : Hp → Int32 → Option (Int32 × Hp) := lp (fun _ _ => none) (f_X10_read_78 N) N
def f_X10_read_4 (N : Nat) (k4 : Hp → Int32 → Int32 → Option (Int32 × Hp)) (s : Hp) (x1 x2 : Int32) : Option (Int32 × Hp) :=
 if 10 ≤ x2 then (
  sb (hset s 36 27 0) fun s1 =>
  bd (f_X10_nextToken N s1) fun v3 s2 =>
  l_X10_read_78 N s2 x1)
 else (
  if (irm x2 2) = 0 then (
   f_X10_read_62 N k4 s x1 x2 (100 + x2) 0)
  else (
   if x2 = 1 then (
    f_X10_read_62 N k4 s x1 x2 (100 + x2) 15)
   else (
    if x2 = 3 then (
     f_X10_read_62 N k4 s x1 x2 (100 + x2) 1439)
    else (
     if x2 = 5 then (
      f_X10_read_62 N k4 s x1 x2 (100 + x2) 999)
     else (
      f_X10_read_62 N k4 s x1 x2 (100 + x2) 31)))))
def l_X10_read_4 (N : Nat) : Hp → Int32 → Int32 → Option (Int32 × Hp) := lp (fun _ _ _ => none) (f_X10_read_4 N) N
def f_X10_read (N : Nat) (s : Hp) : Option (Int32 × Hp) :=
 l_X10_read_4 N s 0 0
def f_X10_licence_54 (N : Nat) (k54 : Hp → Int32 → Option (Int32 × Hp)) (s : Hp) (x1 : Int32) : Option (Int32 × Hp) :=
 if 10 ≤ x1 then (
  sb (hset s 36 23 ((s 36 23) + 1)) fun s6 =>
  some ((s6 36 23) - 1, s6))
 else (
  ck (inR (100 + x1) 110) (
  ck (inR ((10 * (s 36 23)) + x1) 110) (sb (hset s 53 (ix ((10 * (s 36 23)) + x1)) (s 53 (ix (100 + x1)))) fun s7 =>
  vb (x1 + 1) fun y8 =>
  k54 s7 y8)))
def l_X10_licence_54 (N : Nat) : Hp → Int32 → Option (Int32 × Hp) := lp (fun _ _ => none) (f_X10_licence_54 N) N
def f_X10_licence_35 (N : Nat) (s : Hp) (t1 : Int32) : Option (Int32 × Hp) :=
 sb (hset s 36 26 t1) fun s4 =>
 sb (hset s4 36 22 0) fun s5 =>
 if (s5 36 25) = 0 then (
  l_X10_licence_54 N s5 0)
 else (
  some ((-1), s5))
def f_X10_licence (N : Nat) (s : Hp) : Option (Int32 × Hp) :=
 if (s 36 23) = 10 then (
  some ((-1), s))
 else (
  bd (f_X10_read N s) fun v2 s1 =>
  sb (hset s1 36 25 v2) fun s3 =>
  if (s3 36 25) = 0 then (
   f_X10_licence_35 N s3 (-1))
  else (
   f_X10_licence_35 N s3 (s3 36 28)))
def f_X10_fault (N : Nat) (s : Hp) (x1 : Int32) : Option (Int32 × Hp) :=
 if x1 = 0 then (
  some (s 36 25, s))
 else (
  if x1 = 1 then (
   some (s 36 26, s))
  else (
   some ((-1), s)))
def f_X10_isTime_62 (N : Nat) (s : Hp) : Option (Int32 × Hp) :=
 some (1, s)
def f_X10_isTime (N : Nat) (s : Hp) (x1 x2 : Int32) : Option (Int32 × Hp) :=
 ck (inR ((10 * x1) + 2) 110) (
 vb (s 53 (ix ((10 * x1) + 2))) fun y1 =>
 ck (inR ((10 * x1) + 3) 110) (
 vb (s 53 (ix ((10 * x1) + 3))) fun y2 =>
 vb (irm x2 1440) fun y3 =>
 if y2 < y1 then (
  if y1 ≤ y3 then (
   f_X10_isTime_62 N s)
  else (
   if y2 < y3 then (
    some (0, s))
   else (
    f_X10_isTime_62 N s)))
 else (
  bd (f_X10_isIn N s y3 y1 y2) fun v5 s4 =>
  ck (isB v5) (some (v5, s4)))))
def f_X10_answer_139 (N : Nat) (k44 : Hp → Int32 → Int32 → Int32 → Int32 → Int32 → Option (Int32 × Hp)) (s : Hp) (x1 x2 x3 x4 x5 : Int32) : Option (Int32 × Hp) :=
 vb (x5 + 1) fun y16 =>
 k44 s x1 x2 x3 x4 y16
def f_X10_answer_107 (N : Nat) (k44 : Hp → Int32 → Int32 → Int32 → Int32 → Int32 → Option (Int32 × Hp)) (k107 : Hp → Int32 → Int32 → Int32 → Int32 → Int32 → Int32 → Option (Int32 × Hp)) (s : Hp) (x1 x2 x3 x4 x5 x6 : Int32) : Option (Int32 × Hp) :=
 ck (inR x5 60) (
 if (s 46 (ix x5)) < x6 then (
  f_X10_answer_139 N k44 s x1 x2 x3 x4 x5)
 else (
  if x4 = 0 then (
   f_X10_answer_139 N k44 s x1 x2 x3 x4 x5)
  else (
   bd (f_X10_isTime N s x2 x6) fun v14 s13 =>
   vb (x6 + 1) fun y15 =>
   k107 s13 x1 x2 x3 v14 x5 y15)))
def l_X10_answer_107 (N : Nat) (k44 : Hp → Int32 → Int32 → Int32 → Int32 → Int32 → Option (Int32 × Hp)) : Hp → Int32 → Int32 → Int32 → Int32 → Int32 → Int32 → Option (Int32 × Hp) := lp (fun _ _ _ _ _ _ _ => none) (f_X10_answer_107 N k44) N
def f_X10_answer_281 (N : Nat) (k161 : Hp → Int32 → Int32 → Int32 → Int32 → Int32 → Option (Int32 × Hp)) (s : Hp) (x1 x3 x5 x6 x7 : Int32) : Option (Int32 × Hp) :=
 vb (x7 + 1) fun y17 =>
 k161 s x1 x3 x5 x6 y17
def f_X10_answer_279 (N : Nat) (k161 : Hp → Int32 → Int32 → Int32 → Int32 → Int32 → Option (Int32 × Hp)) (s : Hp) (x1 x3 x5 x7 t0 : Int32) : Option (Int32 × Hp) :=
 f_X10_answer_281 N k161 s x1 x3 x5 t0 x7
def f_X10_answer_278 (N : Nat) (k161 : Hp → Int32 → Int32 → Int32 → Int32 → Int32 → Option (Int32 × Hp)) (s : Hp) (x1 x3 x5 x7 : Int32) : Option (Int32 × Hp) :=
 f_X10_answer_279 N k161 s x1 x3 x5 x7 0
def f_X10_answer_262 (N : Nat) (k161 : Hp → Int32 → Int32 → Int32 → Int32 → Int32 → Option (Int32 × Hp)) (s : Hp) (x1 x3 x6 x7 x8 t0 : Int32) : Option (Int32 × Hp) :=
 if x6 = 0 then (
  f_X10_answer_278 N k161 s x1 x3 t0 x7)
 else (
  if x8 = 0 then (
   f_X10_answer_278 N k161 s x1 x3 t0 x7)
  else (
   f_X10_answer_279 N k161 s x1 x3 t0 x7 1))
def f_X10_answer_257 (N : Nat) (k161 : Hp → Int32 → Int32 → Int32 → Int32 → Int32 → Option (Int32 × Hp)) (s : Hp) (x1 x3 x6 x7 x8 : Int32) : Option (Int32 × Hp) :=
 f_X10_answer_262 N k161 s x1 x3 x6 x7 x8 1
def f_X10_answer_245 (N : Nat) (k161 : Hp → Int32 → Int32 → Int32 → Int32 → Int32 → Option (Int32 × Hp)) (s : Hp) (x1 x3 x5 x6 x7 t0 : Int32) : Option (Int32 × Hp) :=
 if x5 = 0 then (
  if t0 = 0 then (
   f_X10_answer_262 N k161 s x1 x3 x6 x7 t0 0)
  else (
   f_X10_answer_257 N k161 s x1 x3 x6 x7 t0))
 else (
  f_X10_answer_257 N k161 s x1 x3 x6 x7 t0)
def f_X10_answer_244 (N : Nat) (k161 : Hp → Int32 → Int32 → Int32 → Int32 → Int32 → Option (Int32 × Hp)) (s : Hp) (x1 x3 x5 x6 x7 : Int32) : Option (Int32 × Hp) :=
 f_X10_answer_245 N k161 s x1 x3 x5 x6 x7 0
def f_X10_answer_161 (N : Nat) (k161 : Hp → Int32 → Int32 → Int32 → Int32 → Int32 → Option (Int32 × Hp)) (s : Hp) (x1 x3 x5 x6 x7 : Int32) : Option (Int32 × Hp) :=
 if 1024 ≤ x7 then (
  if x5 = 0 then (
   some (4, s))
  else (
   if x6 = 0 then (
    some (5, s))
   else (
    some (0, s))))
 else (
  bd (f_X10_isPlace N s x1 x7) fun v8 s7 =>
  if v8 = 0 then (
   f_X10_answer_281 N k161 s7 x1 x3 x5 x6 x7)
  else (
   ck (inR (x3 + 6) 110) (
   ck (inR (x3 + 7) 110) (
   bd (f_X10_isIn N s7 (irm x7 32) (s7 53 (ix (x3 + 6))) (s7 53 (ix (x3 + 7)))) fun v10 s9 =>
   if v10 = 0 then (
    f_X10_answer_244 N k161 s9 x1 x3 x5 x6 x7)
   else (
    ck (inR (x3 + 8) 110) (
    ck (inR (x3 + 9) 110) (
    bd (f_X10_isIn N s9 (x7 / 32) (s9 53 (ix (x3 + 8))) (s9 53 (ix (x3 + 9)))) fun v12 s11 =>
    if v12 = 0 then (
     f_X10_answer_244 N k161 s11 x1 x3 x5 x6 x7)
    else (
     f_X10_answer_245 N k161 s11 x1 x3 x5 x6 x7 1))))))))
def l_X10_answer_161 (N : Nat) : Hp → Int32 → Int32 → Int32 → Int32 → Int32 → Option (Int32 × Hp) := lp (fun _ _ _ _ _ _ => none) (f_X10_answer_161 N) N
def f_X10_answer_44 (N : Nat) (k44 : Hp → Int32 → Int32 → Int32 → Int32 → Int32 → Option (Int32 × Hp)) (s : Hp) (x1 x2 x3 x4 x5 : Int32) : Option (Int32 × Hp) :=
 if (s 36 8) ≤ x5 then (
  if x4 = 0 then (
   some (3, s))
  else (
   l_X10_answer_161 N s x1 x3 0 1 0))
 else (
  ck (inR x5 60) (
  if (s 50 (ix x5)) = x1 then (
   ck (inR x5 60) (
   ck (inR (x3 + 4) 110) (
   ck (inR (x3 + 5) 110) (
   bd (f_X10_isIn N s (s 47 (ix x5)) (s 53 (ix (x3 + 4))) (s 53 (ix (x3 + 5)))) fun v5 s4 =>
   if v5 = 0 then (
    some (2, s4))
   else (
    ck (inR x5 60) (
    vb (s4 45 (ix x5)) fun y6 =>
    l_X10_answer_107 N k44 s4 x1 x2 x3 x4 x5 y6))))))
  else (
   f_X10_answer_139 N k44 s x1 x2 x3 x4 x5)))
def l_X10_answer_44 (N : Nat) : Hp → Int32 → Int32 → Int32 → Int32 → Int32 → Option (Int32 × Hp) := lp (fun _ _ _ _ _ _ => none) (f_X10_answer_44 N) N
def f_X10_answer (N : Nat) (s : Hp) (x1 x2 : Int32) : Option (Int32 × Hp) :=
 vb (10 * x2) fun y1 =>
 ck (inR x1 60) (
 ck (inR (s 51 (ix x1)) 60) (
 ck (inR y1 110) (
 ck (inR (y1 + 1) 110) (
 bd (f_X10_isIn N s (s 44 (ix (s 51 (ix x1)))) (s 53 (ix y1)) (s 53 (ix (y1 + 1)))) fun v3 s2 =>
 if v3 = 0 then (
  some (1, s2))
 else (
  l_X10_answer_44 N s2 x1 x2 y1 1 0)))))
def f_X10_fits (N : Nat) (s : Hp) (x1 x2 : Int32) : Option (Int32 × Hp) :=
 bd (f_X10_isSender N s x1) fun v2 s1 =>
 if v2 = 0 then (
  some ((-1), s1))
 else (
  bd (f_X10_isIn N s1 x2 0 ((s1 36 23) - 1)) fun v4 s3 =>
  if v4 = 0 then (
   some ((-1), s3))
  else (
   bd (f_X10_answer N s3 x1 x2) fun v6 s5 =>
   some (v6, s5)))
def f_X10_rankOf (N : Nat) (s : Hp) (x0 : Int32) : Option (Int32 × Hp) :=
 if x0 = 0 then (
  some (0, s))
 else (
  some (6 - x0, s))
def f_X10_bestOf_39 (N : Nat) (k4 : Hp → Int32 → Int32 → Int32 → Option (Int32 × Hp)) (s : Hp) (x1 x2 x3 : Int32) : Option (Int32 × Hp) :=
 vb (x3 + 1) fun y9 =>
 k4 s x1 x2 y9
def f_X10_bestOf_37 (N : Nat) (k4 : Hp → Int32 → Int32 → Int32 → Option (Int32 × Hp)) (s : Hp) (x1 x3 : Int32) : Option (Int32 × Hp) :=
 f_X10_bestOf_39 N k4 s x1 x3 x3
def f_X10_bestOf_4 (N : Nat) (k4 : Hp → Int32 → Int32 → Int32 → Option (Int32 × Hp)) (s : Hp) (x1 x2 x3 : Int32) : Option (Int32 × Hp) :=
 if (s 36 23) ≤ x3 then (
  some (x2, s))
 else (
  if x2 < 0 then (
   f_X10_bestOf_37 N k4 s x1 x3)
  else (
   bd (f_X10_answer N s x1 x3) fun v2 s1 =>
   bd (f_X10_rankOf N s1 v2) fun v4 s3 =>
   bd (f_X10_answer N s3 x1 x2) fun v6 s5 =>
   bd (f_X10_rankOf N s5 v6) fun v8 s7 =>
   if v8 ≤ v4 then (
    f_X10_bestOf_39 N k4 s7 x1 x2 x3)
   else (
    f_X10_bestOf_37 N k4 s7 x1 x3)))
def l_X10_bestOf_4 (N : Nat) : Hp → Int32 → Int32 → Int32 → Option (Int32 × Hp) := lp (fun _ _ _ _ => none) (f_X10_bestOf_4 N) N
def f_X10_bestOf (N : Nat) (s : Hp) (x1 : Int32) : Option (Int32 × Hp) :=
 l_X10_bestOf_4 N s x1 (-1) 0
def f_X10_best (N : Nat) (s : Hp) (x1 x2 : Int32) : Option (Int32 × Hp) :=
 bd (f_X10_isSender N s x1) fun v2 s1 =>
 if v2 = 0 then (
  some ((-1), s1))
 else (
  if (s1 36 23) = 0 then (
   some ((-1), s1))
  else (
   bd (f_X10_isIn N s1 x2 0 1) fun v4 s3 =>
   if v4 = 0 then (
    some ((-1), s3))
   else (
    bd (f_X10_bestOf N s3 x1) fun v6 s5 =>
    if x2 = 0 then (
     some (v6, s5))
    else (
     bd (f_X10_answer N s5 x1 v6) fun v8 s7 =>
     some (v8, s7)))))
def f_X10_wanderers_41 (N : Nat) (k8 : Hp → Int32 → Int32 → Option (Int32 × Hp)) (s : Hp) (x2 t0 t1 : Int32) : Option (Int32 × Hp) :=
 vb (t0 + t1) fun y7 =>
 vb (x2 + 1) fun y8 =>
 k8 s y7 y8
def f_X10_wanderers_36 (N : Nat) (k8 : Hp → Int32 → Int32 → Option (Int32 × Hp)) (s : Hp) (x2 t0 : Int32) : Option (Int32 × Hp) :=
 f_X10_wanderers_41 N k8 s x2 t0 1
def f_X10_wanderers_8 (N : Nat) (k8 : Hp → Int32 → Int32 → Option (Int32 × Hp)) (s : Hp) (x1 x2 : Int32) : Option (Int32 × Hp) :=
 if (s 36 18) ≤ x2 then (
  some (x1, s))
 else (
  bd (f_X10_bestOf N s x2) fun v4 s3 =>
  if v4 < 0 then (
   f_X10_wanderers_36 N k8 s3 x2 x1)
  else (
   bd (f_X10_answer N s3 x2 v4) fun v6 s5 =>
   if v6 = 0 then (
    f_X10_wanderers_41 N k8 s5 x2 x1 0)
   else (
    f_X10_wanderers_36 N k8 s5 x2 x1)))
def l_X10_wanderers_8 (N : Nat) : Hp → Int32 → Int32 → Option (Int32 × Hp) := lp (fun _ _ _ => none) (f_X10_wanderers_8 N) N
def f_X10_wanderers (N : Nat) (s : Hp) : Option (Int32 × Hp) :=
 bd (f_X10_join N s) fun v2 s1 =>
 l_X10_wanderers_8 N s1 0 0
def f_X10_worth_95 (N : Nat) (k6 : Hp → Int32 → Int32 → Int32 → Int32 → Int32 → Option (Int32 × Hp)) (k44 : Hp → Int32 → Int32 → Int32 → Int32 → Int32 → Int32 → Int32 → Option (Int32 × Hp)) (s : Hp) (x1 x2 x3 x4 x5 x7 x8 : Int32) : Option (Int32 × Hp) :=
 vb (x8 + 1) fun y6 =>
 k44 s x1 x2 x3 x4 x5 x7 y6
def f_X10_worth_44 (N : Nat) (k6 : Hp → Int32 → Int32 → Int32 → Int32 → Int32 → Option (Int32 × Hp)) (k44 : Hp → Int32 → Int32 → Int32 → Int32 → Int32 → Int32 → Int32 → Option (Int32 × Hp)) (s : Hp) (x1 x2 x3 x4 x5 x7 x8 : Int32) : Option (Int32 × Hp) :=
 if x5 ≤ x8 then (
  vb (x4 + ((x2 + (x5 * x3)) - x7)) fun y3 =>
  vb (x5 + 1) fun y4 =>
  k6 s x1 x2 x3 y3 y4)
 else (
  ck (inR x8 4) (
  ck (inR x5 4) (
  if (s 55 (ix x8)) = (s 55 (ix x5)) then (
   if ((x2 + ((x8 + 1) * x3)) - 1) ≤ x7 then (
    f_X10_worth_95 N k6 k44 s x1 x2 x3 x4 x5 x7 x8)
   else (
    vb ((x2 + ((x8 + 1) * x3)) - 1) fun y5 =>
    f_X10_worth_95 N k6 k44 s x1 x2 x3 x4 x5 y5 x8))
  else (
   f_X10_worth_95 N k6 k44 s x1 x2 x3 x4 x5 x7 x8))))
def l_X10_worth_44 (N : Nat) (k6 : Hp → Int32 → Int32 → Int32 → Int32 → Int32 → Option (Int32 × Hp)) : Hp → Int32 → Int32 → Int32 → Int32 → Int32 → Int32 → Int32 → Option (Int32 × Hp) := lp (fun _ _ _ _ _ _ _ _ => none) (f_X10_worth_44 N k6) N
def f_X10_worth_6 (N : Nat) (k6 : Hp → Int32 → Int32 → Int32 → Int32 → Int32 → Option (Int32 × Hp)) (s : Hp) (x1 x2 x3 x4 x5 : Int32) : Option (Int32 × Hp) :=
 if x1 ≤ x5 then (
  some (x4, s))
 else (
  ck (inR x5 4) (
  ck (inR (s 55 (ix x5)) 16) (
  vb (s 57 (ix (s 55 (ix x5)))) fun y1 =>
  ck (inR ((16 * x5) + y1) 64) (
  vb (s 56 (ix ((16 * x5) + y1))) fun y2 =>
  l_X10_worth_44 N k6 s x1 x2 x3 x4 x5 y2 0))))
def l_X10_worth_6 (N : Nat) : Hp → Int32 → Int32 → Int32 → Int32 → Int32 → Option (Int32 × Hp) := lp (fun _ _ _ _ _ _ => none) (f_X10_worth_6 N) N
def f_X10_worth (N : Nat) (s : Hp) (x1 x2 x3 : Int32) : Option (Int32 × Hp) :=
 l_X10_worth_6 N s x1 x2 x3 0 0
def f_X10_latestAhead_74 (N : Nat) (k5 : Hp → Int32 → Int32 → Int32 → Int32 → Option (Int32 × Hp)) (s : Hp) (x1 x2 x3 x4 : Int32) : Option (Int32 × Hp) :=
 vb (x4 + 1) fun y1 =>
 k5 s x1 x2 x3 y1
def f_X10_latestAhead_63 (N : Nat) (k5 : Hp → Int32 → Int32 → Int32 → Int32 → Option (Int32 × Hp)) (s : Hp) (x1 x2 x3 x4 t0 : Int32) : Option (Int32 × Hp) :=
 if t0 ≤ x3 then (
  f_X10_latestAhead_74 N k5 s x1 x2 x3 x4)
 else (
  f_X10_latestAhead_74 N k5 s x1 x2 t0 x4)
def f_X10_latestAhead_5 (N : Nat) (k5 : Hp → Int32 → Int32 → Int32 → Int32 → Option (Int32 × Hp)) (s : Hp) (x1 x2 x3 x4 : Int32) : Option (Int32 × Hp) :=
 if (s 36 3) ≤ x4 then (
  some (x3, s))
 else (
  ck (inR x4 100) (
  if (s 40 (ix x4)) = x1 then (
   ck (inR x4 100) (
   if (s 41 (ix x4)) < x2 then (
    ck (inR x4 100) (
    if x2 ≤ (s 42 (ix x4)) then (
     f_X10_latestAhead_63 N k5 s x1 x2 x3 x4 (x2 - 1))
    else (
     ck (inR x4 100) (
     f_X10_latestAhead_63 N k5 s x1 x2 x3 x4 (s 42 (ix x4))))))
   else (
    f_X10_latestAhead_74 N k5 s x1 x2 x3 x4)))
  else (
   f_X10_latestAhead_74 N k5 s x1 x2 x3 x4)))
def l_X10_latestAhead_5 (N : Nat) : Hp → Int32 → Int32 → Int32 → Int32 → Option (Int32 × Hp) := lp (fun _ _ _ _ _ => none) (f_X10_latestAhead_5 N) N
def f_X10_latestAhead (N : Nat) (s : Hp) (x1 x2 : Int32) : Option (Int32 × Hp) :=
 l_X10_latestAhead_5 N s x1 x2 (-1) 0
def f_X10_sweep_93 (N : Nat) (k62 : Hp → Int32 → Int32 → Int32 → Int32 → Int32 → Int32 → Option (Int32 × Hp)) (s : Hp) (x1 x2 x3 x4 x5 x6 : Int32) : Option (Int32 × Hp) :=
 vb (x6 + 1) fun y11 =>
 k62 s x1 x2 x3 x4 x5 y11
def f_X10_sweep_111 (N : Nat) (k102 : Hp → Int32 → Int32 → Int32 → Int32 → Int32 → Option (Int32 × Hp)) (k111 : Hp → Int32 → Int32 → Int32 → Int32 → Int32 → Int32 → Option (Int32 × Hp)) (s : Hp) (x2 x3 x4 x5 x6 x7 : Int32) : Option (Int32 × Hp) :=
 if 16 ≤ x7 then (
  ck (inR x6 4) (sb (hset s 55 (ix x6) 0) fun s15 =>
  vb (x6 + 1) fun y16 =>
  k102 s15 x2 x3 x4 x5 y16))
 else (
  bd (f_X10_latestAhead N s x7 (x2 + (x6 * x4))) fun v18 s17 =>
  ck (inR ((16 * x6) + x7) 64) (sb (hset s17 56 (ix ((16 * x6) + x7)) v18) fun s19 =>
  vb (x7 + 1) fun y20 =>
  k111 s19 x2 x3 x4 x5 x6 y20))
def l_X10_sweep_111 (N : Nat) (k102 : Hp → Int32 → Int32 → Int32 → Int32 → Int32 → Option (Int32 × Hp)) : Hp → Int32 → Int32 → Int32 → Int32 → Int32 → Int32 → Option (Int32 × Hp) := lp (fun _ _ _ _ _ _ _ => none) (f_X10_sweep_111 N k102) N
def f_X10_sweep_301 (N : Nat) (k170 : Hp → Int32 → Int32 → Int32 → Int32 → Int32 → Int32 → Option (Int32 × Hp)) (s : Hp) (x2 x3 x4 x5 x6 x7 : Int32) : Option (Int32 × Hp) :=
 k170 s x2 x3 x4 x5 x6 x7
def f_X10_sweep_283 (N : Nat) (k170 : Hp → Int32 → Int32 → Int32 → Int32 → Int32 → Int32 → Option (Int32 × Hp)) (s : Hp) (x2 x3 x4 x5 x6 x9 t0 : Int32) : Option (Int32 × Hp) :=
 if t0 = 0 then (
  f_X10_sweep_301 N k170 s x2 x3 x4 x5 x6 t0)
 else (
  ck (inR x9 4) (
  ck (inR x9 4) (sb (hset s 55 (ix x9) ((s 55 (ix x9)) + 1)) fun s26 =>
  f_X10_sweep_301 N k170 s26 x2 x3 x4 x5 x6 t0)))
def f_X10_sweep_273 (N : Nat) (k170 : Hp → Int32 → Int32 → Int32 → Int32 → Int32 → Int32 → Option (Int32 × Hp)) (s : Hp) (x2 x3 x4 x5 x6 x9 : Int32) : Option (Int32 × Hp) :=
 if x9 < 0 then (
  f_X10_sweep_283 N k170 s x2 x3 x4 x5 x6 x9 0)
 else (
  f_X10_sweep_283 N k170 s x2 x3 x4 x5 x6 x9 1)
def f_X10_sweep_240 (N : Nat) (k170 : Hp → Int32 → Int32 → Int32 → Int32 → Int32 → Int32 → Option (Int32 × Hp)) (k240 : Hp → Int32 → Int32 → Int32 → Int32 → Int32 → Int32 → Option (Int32 × Hp)) (s : Hp) (x2 x3 x4 x5 x6 x9 : Int32) : Option (Int32 × Hp) :=
 if x9 < 0 then (
  f_X10_sweep_273 N k170 s x2 x3 x4 x5 x6 x9)
 else (
  ck (inR x9 4) (
  if (s 55 (ix x9)) = (x5 - 1) then (
   ck (inR x9 4) (sb (hset s 55 (ix x9) 0) fun s24 =>
   vb (x9 + (-1)) fun y25 =>
   k240 s24 x2 x3 x4 x5 x6 y25))
  else (
   f_X10_sweep_273 N k170 s x2 x3 x4 x5 x6 x9)))
def l_X10_sweep_240 (N : Nat) (k170 : Hp → Int32 → Int32 → Int32 → Int32 → Int32 → Int32 → Option (Int32 × Hp)) : Hp → Int32 → Int32 → Int32 → Int32 → Int32 → Int32 → Option (Int32 × Hp) := lp (fun _ _ _ _ _ _ _ => none) (f_X10_sweep_240 N k170) N
def f_X10_sweep_235 (N : Nat) (k170 : Hp → Int32 → Int32 → Int32 → Int32 → Int32 → Int32 → Option (Int32 × Hp)) (s : Hp) (x2 x3 x4 x5 x6 : Int32) : Option (Int32 × Hp) :=
 vb (x3 - 1) fun y21 =>
 l_X10_sweep_240 N k170 s x2 x3 x4 x5 x6 y21
def f_X10_sweep_204 (N : Nat) (k170 : Hp → Int32 → Int32 → Int32 → Int32 → Int32 → Int32 → Option (Int32 × Hp)) (k204 : Hp → Int32 → Int32 → Int32 → Int32 → Int32 → Int32 → Option (Int32 × Hp)) (s : Hp) (x2 x3 x4 x5 x6 x9 : Int32) : Option (Int32 × Hp) :=
 if x3 ≤ x9 then (
  f_X10_sweep_235 N k170 s x2 x3 x4 x5 x6)
 else (
  ck (inR x9 4) (
  ck (inR (s 55 (ix x9)) 16) (
  ck (inR x9 4) (sb (hset s 54 (ix x9) (s 57 (ix (s 55 (ix x9))))) fun s22 =>
  vb (x9 + 1) fun y23 =>
  k204 s22 x2 x3 x4 x5 x6 y23))))
def l_X10_sweep_204 (N : Nat) (k170 : Hp → Int32 → Int32 → Int32 → Int32 → Int32 → Int32 → Option (Int32 × Hp)) : Hp → Int32 → Int32 → Int32 → Int32 → Int32 → Int32 → Option (Int32 × Hp) := lp (fun _ _ _ _ _ _ _ => none) (f_X10_sweep_204 N k170) N
def f_X10_sweep_170 (N : Nat) (k170 : Hp → Int32 → Int32 → Int32 → Int32 → Int32 → Int32 → Option (Int32 × Hp)) (s : Hp) (x2 x3 x4 x5 x6 x7 : Int32) : Option (Int32 × Hp) :=
 if x7 = 0 then (
  some (x6, s))
 else (
  bd (f_X10_worth N s x3 x2 x4) fun v13 s12 =>
  if v13 ≤ x6 then (
   f_X10_sweep_235 N k170 s12 x2 x3 x4 x5 x6)
  else (
   sb (hset s12 36 31 x3) fun s14 =>
   l_X10_sweep_204 N k170 s14 x2 x3 x4 x5 v13 0))
def l_X10_sweep_170 (N : Nat) : Hp → Int32 → Int32 → Int32 → Int32 → Int32 → Int32 → Option (Int32 × Hp) := lp (fun _ _ _ _ _ _ _ => none) (f_X10_sweep_170 N) N
def f_X10_sweep_102 (N : Nat) (k102 : Hp → Int32 → Int32 → Int32 → Int32 → Int32 → Option (Int32 × Hp)) (s : Hp) (x2 x3 x4 x5 x6 : Int32) : Option (Int32 × Hp) :=
 if x3 ≤ x6 then (
  l_X10_sweep_170 N s x2 x3 x4 x5 (-1) 1)
 else (
  l_X10_sweep_111 N k102 s x2 x3 x4 x5 x6 0)
def l_X10_sweep_102 (N : Nat) : Hp → Int32 → Int32 → Int32 → Int32 → Int32 → Option (Int32 × Hp) := lp (fun _ _ _ _ _ _ => none) (f_X10_sweep_102 N) N
def f_X10_sweep_62 (N : Nat) (k62 : Hp → Int32 → Int32 → Int32 → Int32 → Int32 → Int32 → Option (Int32 × Hp)) (s : Hp) (x1 x2 x3 x4 x5 x6 : Int32) : Option (Int32 × Hp) :=
 if 16 ≤ x6 then (
  l_X10_sweep_102 N s x2 x3 x4 x5 0)
 else (
  if ((x1 >>> (x6 &&& 31)) &&& 1) = 0 then (
   f_X10_sweep_93 N k62 s x1 x2 x3 x4 x5 x6)
  else (
   ck (inR x5 16) (sb (hset s 57 (ix x5) x6) fun s9 =>
   vb (x5 + 1) fun y10 =>
   f_X10_sweep_93 N k62 s9 x1 x2 x3 x4 y10 x6)))
def l_X10_sweep_62 (N : Nat) : Hp → Int32 → Int32 → Int32 → Int32 → Int32 → Int32 → Option (Int32 × Hp) := lp (fun _ _ _ _ _ _ _ => none) (f_X10_sweep_62 N) N
def f_X10_sweep (N : Nat) (s : Hp) (x1 x2 x3 x4 : Int32) : Option (Int32 × Hp) :=
 bd (f_X10_isIn N s x1 1 65535) fun v2 s1 =>
 if v2 = 0 then (
  some ((-1), s1))
 else (
  bd (f_X10_isIn N s1 x2 0 9999) fun v4 s3 =>
  if v4 = 0 then (
   some ((-1), s3))
  else (
   bd (f_X10_isIn N s3 x3 1 4) fun v6 s5 =>
   if v6 = 0 then (
    some ((-1), s5))
   else (
    bd (f_X10_isIn N s5 x4 1 240) fun v8 s7 =>
    if v8 = 0 then (
     some ((-1), s7))
    else (
     if (x2 + (x3 * x4)) ≤ 10000 then (
      l_X10_sweep_62 N s7 x1 x2 x3 x4 0 0)
     else (
      some ((-1), s7))))))
def f_X10_slot (N : Nat) (s : Hp) (x1 : Int32) : Option (Int32 × Hp) :=
 bd (f_X10_isIn N s x1 0 ((s 36 31) - 1)) fun v2 s1 =>
 if v2 = 0 then (
  some ((-1), s1))
 else (
  ck (inR x1 4) (
  some (s1 54 (ix x1), s1)))
def f_X10_about_27 (N : Nat) (k4 : Hp → Int32 → Int32 → Int32 → Option (Int32 × Hp)) (s : Hp) (x1 x3 t0 t1 : Int32) : Option (Int32 × Hp) :=
 vb (t0 + t1) fun y1 =>
 vb (x3 + 1) fun y2 =>
 k4 s x1 y1 y2
def f_X10_about_4 (N : Nat) (k4 : Hp → Int32 → Int32 → Int32 → Option (Int32 × Hp)) (s : Hp) (x1 x2 x3 : Int32) : Option (Int32 × Hp) :=
 if (s 36 8) ≤ x3 then (
  if x1 = 0 then (
   some (s 36 0, s))
  else (
   if x1 = 1 then (
    some (s 36 3, s))
   else (
    if x1 = 2 then (
     some (s 36 8, s))
    else (
     if x1 = 3 then (
      some (s 36 23, s))
     else (
      if x1 = 4 then (
       some (s 36 16, s))
      else (
       if x1 = 5 then (
        some (s 36 17, s))
       else (
        if x1 = 6 then (
         some (s 36 22, s))
        else (
         if x1 = 7 then (
          some (x2, s))
         else (
          some ((-1), s))))))))))
 else (
  ck (inR x3 60) (
  if (s 48 (ix x3)) = 0 then (
   f_X10_about_27 N k4 s x1 x3 x2 0)
  else (
   f_X10_about_27 N k4 s x1 x3 x2 1)))
def l_X10_about_4 (N : Nat) : Hp → Int32 → Int32 → Int32 → Option (Int32 × Hp) := lp (fun _ _ _ _ => none) (f_X10_about_4 N) N
def f_X10_about (N : Nat) (s : Hp) (x1 : Int32) : Option (Int32 × Hp) :=
 l_X10_about_4 N s x1 0 0

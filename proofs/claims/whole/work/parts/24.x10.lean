theorem dX10_previewTotal_0 : decode cX10_previewTotal 0 = .ok (.aload_n 0, 1) := by decide +kernel
theorem dX10_previewTotal_1 : decode cX10_previewTotal 1 = .ok (.iconst 0, 1) := by decide +kernel
theorem dX10_previewTotal_2 : decode cX10_previewTotal 2 = .ok (.putfield 84, 3) := by decide +kernel
theorem dX10_previewTotal_5 : decode cX10_previewTotal 5 = .ok (.iload_n 1, 1) := by decide +kernel
theorem dX10_previewTotal_6 : decode cX10_previewTotal 6 = .ok (.i2l, 1) := by decide +kernel
theorem dX10_previewTotal_7 : decode cX10_previewTotal 7 = .ok (.lconst 0, 1) := by decide +kernel
theorem dX10_previewTotal_8 : decode cX10_previewTotal 8 = .ok (.ldc2_w 241, 3) := by decide +kernel
theorem dX10_previewTotal_11 : decode cX10_previewTotal 11 = .ok (.invokestatic 115, 3) := by decide +kernel
theorem dX10_previewTotal_14 : decode cX10_previewTotal 14 = .ok (.ifCond .ne 9, 3) := by decide +kernel
theorem dX10_previewTotal_17 : decode cX10_previewTotal 17 = .ok (.aload_n 0, 1) := by decide +kernel
theorem dX10_previewTotal_18 : decode cX10_previewTotal 18 = .ok (.iconst 1, 1) := by decide +kernel
theorem dX10_previewTotal_19 : decode cX10_previewTotal 19 = .ok (.invokevirtual 202, 3) := by decide +kernel
theorem dX10_previewTotal_22 : decode cX10_previewTotal 22 = .ok (.ireturn, 1) := by decide +kernel
theorem dX10_previewTotal_23 : decode cX10_previewTotal 23 = .ok (.aload_n 0, 1) := by decide +kernel
theorem dX10_previewTotal_24 : decode cX10_previewTotal 24 = .ok (.iload_n 1, 1) := by decide +kernel
theorem dX10_previewTotal_25 : decode cX10_previewTotal 25 = .ok (.invokevirtual 313, 3) := by decide +kernel
theorem dX10_previewTotal_28 : decode cX10_previewTotal 28 = .ok (.iconst 0, 1) := by decide +kernel
theorem dX10_previewTotal_29 : decode cX10_previewTotal 29 = .ok (.istore_n 2, 1) := by decide +kernel
theorem dX10_previewTotal_30 : decode cX10_previewTotal 30 = .ok (.iconst 0, 1) := by decide +kernel
theorem dX10_previewTotal_31 : decode cX10_previewTotal 31 = .ok (.istore_n 3, 1) := by decide +kernel
theorem dX10_previewTotal_32 : decode cX10_previewTotal 32 = .ok (.iload_n 3, 1) := by decide +kernel
theorem dX10_previewTotal_33 : decode cX10_previewTotal 33 = .ok (.aload_n 0, 1) := by decide +kernel
theorem dX10_previewTotal_34 : decode cX10_previewTotal 34 = .ok (.getfield 292, 3) := by decide +kernel
theorem dX10_previewTotal_37 : decode cX10_previewTotal 37 = .ok (.if_icmp .ge 18, 3) := by decide +kernel
theorem dX10_previewTotal_40 : decode cX10_previewTotal 40 = .ok (.iload_n 2, 1) := by decide +kernel
theorem dX10_previewTotal_41 : decode cX10_previewTotal 41 = .ok (.aload_n 0, 1) := by decide +kernel
theorem dX10_previewTotal_42 : decode cX10_previewTotal 42 = .ok (.getfield 66, 3) := by decide +kernel
theorem dX10_previewTotal_45 : decode cX10_previewTotal 45 = .ok (.iload_n 3, 1) := by decide +kernel
theorem dX10_previewTotal_46 : decode cX10_previewTotal 46 = .ok (.iaload, 1) := by decide +kernel
theorem dX10_previewTotal_47 : decode cX10_previewTotal 47 = .ok (.iadd, 1) := by decide +kernel
theorem dX10_previewTotal_48 : decode cX10_previewTotal 48 = .ok (.istore_n 2, 1) := by decide +kernel
theorem dX10_previewTotal_49 : decode cX10_previewTotal 49 = .ok (.iinc 3 1, 3) := by decide +kernel
theorem dX10_previewTotal_52 : decode cX10_previewTotal 52 = .ok (.goto (-20), 3) := by decide +kernel
theorem dX10_previewTotal_55 : decode cX10_previewTotal 55 = .ok (.iconst 0, 1) := by decide +kernel
theorem dX10_previewTotal_56 : decode cX10_previewTotal 56 = .ok (.istore_n 3, 1) := by decide +kernel
theorem dX10_previewTotal_57 : decode cX10_previewTotal 57 = .ok (.iload_n 3, 1) := by decide +kernel
theorem dX10_previewTotal_58 : decode cX10_previewTotal 58 = .ok (.aload_n 0, 1) := by decide +kernel
theorem dX10_previewTotal_59 : decode cX10_previewTotal 59 = .ok (.getfield 283, 3) := by decide +kernel
theorem dX10_previewTotal_62 : decode cX10_previewTotal 62 = .ok (.if_icmp .ge 35, 3) := by decide +kernel
theorem dX10_previewTotal_65 : decode cX10_previewTotal 65 = .ok (.iload_n 2, 1) := by decide +kernel
theorem dX10_previewTotal_66 : decode cX10_previewTotal 66 = .ok (.aload_n 0, 1) := by decide +kernel
theorem dX10_previewTotal_67 : decode cX10_previewTotal 67 = .ok (.getfield 75, 3) := by decide +kernel
theorem dX10_previewTotal_70 : decode cX10_previewTotal 70 = .ok (.iload_n 3, 1) := by decide +kernel
theorem dX10_previewTotal_71 : decode cX10_previewTotal 71 = .ok (.iaload, 1) := by decide +kernel
theorem dX10_previewTotal_72 : decode cX10_previewTotal 72 = .ok (.invokestatic 268, 3) := by decide +kernel
theorem dX10_previewTotal_75 : decode cX10_previewTotal 75 = .ok (.ifCond .eq 7, 3) := by decide +kernel
theorem dX10_previewTotal_78 : decode cX10_previewTotal 78 = .ok (.iconst 0, 1) := by decide +kernel
theorem dX10_previewTotal_79 : decode cX10_previewTotal 79 = .ok (.goto 10, 3) := by decide +kernel
theorem dX10_previewTotal_82 : decode cX10_previewTotal 82 = .ok (.aload_n 0, 1) := by decide +kernel
theorem dX10_previewTotal_83 : decode cX10_previewTotal 83 = .ok (.getfield 13, 3) := by decide +kernel
theorem dX10_previewTotal_86 : decode cX10_previewTotal 86 = .ok (.bipush 6, 2) := by decide +kernel
theorem dX10_previewTotal_88 : decode cX10_previewTotal 88 = .ok (.iaload, 1) := by decide +kernel
theorem dX10_previewTotal_89 : decode cX10_previewTotal 89 = .ok (.iadd, 1) := by decide +kernel
theorem dX10_previewTotal_90 : decode cX10_previewTotal 90 = .ok (.istore_n 2, 1) := by decide +kernel
theorem dX10_previewTotal_91 : decode cX10_previewTotal 91 = .ok (.iinc 3 1, 3) := by decide +kernel
theorem dX10_previewTotal_94 : decode cX10_previewTotal 94 = .ok (.goto (-37), 3) := by decide +kernel
theorem dX10_previewTotal_97 : decode cX10_previewTotal 97 = .ok (.iload_n 2, 1) := by decide +kernel
theorem dX10_previewTotal_98 : decode cX10_previewTotal 98 = .ok (.ireturn, 1) := by decide +kernel
abbrev m_X10_previewTotal : MD := (yX10_previewTotal, cX10_previewTotal, 4, (some .int))

abbrev w_X10_previewTotal (g : GT) (h0 h1 h2 h3 h4 h5 h6 h7 h8 h9 h10 h11 h12 h13 h14 h15 h16 h17 h18 : Nat) (v0_1 v0_2 v0_3 v0_4 v0_5 v0_6 v0_7 v0_8 v0_9 v0_11 v0_20 v0_22 v0_23 v0_24 v0_25 : Value) (thrown0 routeMany0 routeCost0 newTrips0 newInvoices0 : Int32) (basic1 classAxles2 classPercent3 linkFrom4 linkMinutes5 linkPrice6 linkTo7 newAmount8 newClass9 newInvoice10 newPassages11 newVehicle12 route13 state14 tagAxles15 tagPlate16 tried17 tripFor18 : Nat → Int32) : va_W := [(h0, .inr (10, [.int thrown0, v0_1, v0_2, v0_3, v0_4, v0_5, v0_6, v0_7, v0_8, v0_9, .ref h1, v0_11, .ref h4, .ref h7, .ref h5, .ref h6, .ref h2, .ref h3, .ref h16, .ref h15, v0_20, .ref h14, v0_22, v0_23, v0_24, v0_25, .int routeMany0, .int routeCost0, .ref h13, .ref h17, .ref h10, .ref h8, .ref h9, .ref h11, .ref h12, .ref h18, .int newTrips0, .int newInvoices0])), (h1, aI g 7 basic1), (h2, aI g 8 classAxles2), (h3, aI g 8 classPercent3), (h4, aI g 48 linkFrom4), (h5, aI g 48 linkMinutes5), (h6, aI g 48 linkPrice6), (h7, aI g 48 linkTo7), (h8, aI g 80 newAmount8), (h9, aI g 80 newClass9), (h10, aI g 80 newInvoice10), (h11, aI g 80 newPassages11), (h12, aI g 80 newVehicle12), (h13, aI g 4 route13), (h14, aI g 2524 state14), (h15, aI g 24 tagAxles15), (h16, aI g 24 tagPlate16), (h17, aI g 4 tried17), (h18, aI g 80 tripFor18)]
def f_X10_previewTotal_b89 (F : Nat) (k57 : (Int32 × Int32 × Int32 × Int32 × Int32 × Int32 × Int32 × (Nat → Int32) × (Nat → Int32) × (Nat → Int32) × (Nat → Int32) × (Nat → Int32) × (Nat → Int32) × (Nat → Int32) × (Nat → Int32)) → Option (Int32 × Int32 × Int32 × Int32 × Int32 × Int32 × (Nat → Int32) × (Nat → Int32) × (Nat → Int32) × (Nat → Int32) × (Nat → Int32) × (Nat → Int32) × (Nat → Int32) × (Nat → Int32))) (basic1 classAxles2 classPercent3 linkFrom4 linkMinutes5 linkPrice6 linkTo7 state14 tagAxles15 tagPlate16 : Nat → Int32) (x3 s0 s1 thrown0 routeMany0 routeCost0 newTrips0 newInvoices0 : Int32) (newAmount8 newClass9 newInvoice10 newPassages11 newVehicle12 route13 tried17 tripFor18 : Nat → Int32) : Option (Int32 × Int32 × Int32 × Int32 × Int32 × Int32 × (Nat → Int32) × (Nat → Int32) × (Nat → Int32) × (Nat → Int32) × (Nat → Int32) × (Nat → Int32) × (Nat → Int32) × (Nat → Int32)) :=
  k57 (s1 + s0, x3 + 1, thrown0, routeMany0, routeCost0, newTrips0, newInvoices0, newAmount8, newClass9, newInvoice10, newPassages11, newVehicle12, route13, tried17, tripFor18)
def f_X10_previewTotal_h57 (F : Nat) (basic1 classAxles2 classPercent3 linkFrom4 linkMinutes5 linkPrice6 linkTo7 state14 tagAxles15 tagPlate16 : Nat → Int32) (k57 : (Int32 × Int32 × Int32 × Int32 × Int32 × Int32 × Int32 × (Nat → Int32) × (Nat → Int32) × (Nat → Int32) × (Nat → Int32) × (Nat → Int32) × (Nat → Int32) × (Nat → Int32) × (Nat → Int32)) → Option (Int32 × Int32 × Int32 × Int32 × Int32 × Int32 × (Nat → Int32) × (Nat → Int32) × (Nat → Int32) × (Nat → Int32) × (Nat → Int32) × (Nat → Int32) × (Nat → Int32) × (Nat → Int32))) (x2 x3 thrown0 routeMany0 routeCost0 newTrips0 newInvoices0 : Int32) (newAmount8 newClass9 newInvoice10 newPassages11 newVehicle12 route13 tried17 tripFor18 : Nat → Int32) : Option (Int32 × Int32 × Int32 × Int32 × Int32 × Int32 × (Nat → Int32) × (Nat → Int32) × (Nat → Int32) × (Nat → Int32) × (Nat → Int32) × (Nat → Int32) × (Nat → Int32) × (Nat → Int32)) :=
  if newInvoices0 ≤ x3 then
    some (x2, thrown0, routeMany0, routeCost0, newTrips0, newInvoices0, newAmount8, newClass9, newInvoice10, newPassages11, newVehicle12, route13, tried17, tripFor18)
  else
    rd newVehicle12 80 x3 fun a2 =>
    bd1 (f_X10_isTag F a2) fun r3 =>
    if r3 = 0 then
      rd basic1 7 6 fun a6 =>
      f_X10_previewTotal_b89 F k57 basic1 classAxles2 classPercent3 linkFrom4 linkMinutes5 linkPrice6 linkTo7 state14 tagAxles15 tagPlate16 x3 a6 x2 thrown0 routeMany0 routeCost0 newTrips0 newInvoices0 newAmount8 newClass9 newInvoice10 newPassages11 newVehicle12 route13 tried17 tripFor18
    else
      f_X10_previewTotal_b89 F k57 basic1 classAxles2 classPercent3 linkFrom4 linkMinutes5 linkPrice6 linkTo7 state14 tagAxles15 tagPlate16 x3 0 x2 thrown0 routeMany0 routeCost0 newTrips0 newInvoices0 newAmount8 newClass9 newInvoice10 newPassages11 newVehicle12 route13 tried17 tripFor18
def f_X10_previewTotal_L57 (F : Nat) (basic1 classAxles2 classPercent3 linkFrom4 linkMinutes5 linkPrice6 linkTo7 state14 tagAxles15 tagPlate16 : Nat → Int32) (z : Int32 × Int32 × Int32 × Int32 × Int32 × Int32 × Int32 × (Nat → Int32) × (Nat → Int32) × (Nat → Int32) × (Nat → Int32) × (Nat → Int32) × (Nat → Int32) × (Nat → Int32) × (Nat → Int32)) : Option (Int32 × Int32 × Int32 × Int32 × Int32 × Int32 × (Nat → Int32) × (Nat → Int32) × (Nat → Int32) × (Nat → Int32) × (Nat → Int32) × (Nat → Int32) × (Nat → Int32) × (Nat → Int32)) := lp (fun k z => f_X10_previewTotal_h57 F basic1 classAxles2 classPercent3 linkFrom4 linkMinutes5 linkPrice6 linkTo7 state14 tagAxles15 tagPlate16 k z.1 z.2.1 z.2.2.1 z.2.2.2.1 z.2.2.2.2.1 z.2.2.2.2.2.1 z.2.2.2.2.2.2.1 z.2.2.2.2.2.2.2.1 z.2.2.2.2.2.2.2.2.1 z.2.2.2.2.2.2.2.2.2.1 z.2.2.2.2.2.2.2.2.2.2.1 z.2.2.2.2.2.2.2.2.2.2.2.1 z.2.2.2.2.2.2.2.2.2.2.2.2.1 z.2.2.2.2.2.2.2.2.2.2.2.2.2.1 z.2.2.2.2.2.2.2.2.2.2.2.2.2.2) F z
def f_X10_previewTotal_h32 (F : Nat) (basic1 classAxles2 classPercent3 linkFrom4 linkMinutes5 linkPrice6 linkTo7 state14 tagAxles15 tagPlate16 : Nat → Int32) (k32 : (Int32 × Int32 × Int32 × Int32 × Int32 × Int32 × Int32 × (Nat → Int32) × (Nat → Int32) × (Nat → Int32) × (Nat → Int32) × (Nat → Int32) × (Nat → Int32) × (Nat → Int32) × (Nat → Int32)) → Option (Int32 × Int32 × Int32 × Int32 × Int32 × Int32 × (Nat → Int32) × (Nat → Int32) × (Nat → Int32) × (Nat → Int32) × (Nat → Int32) × (Nat → Int32) × (Nat → Int32) × (Nat → Int32))) (x2 x3 thrown0 routeMany0 routeCost0 newTrips0 newInvoices0 : Int32) (newAmount8 newClass9 newInvoice10 newPassages11 newVehicle12 route13 tried17 tripFor18 : Nat → Int32) : Option (Int32 × Int32 × Int32 × Int32 × Int32 × Int32 × (Nat → Int32) × (Nat → Int32) × (Nat → Int32) × (Nat → Int32) × (Nat → Int32) × (Nat → Int32) × (Nat → Int32) × (Nat → Int32)) :=
  if newTrips0 ≤ x3 then
    f_X10_previewTotal_L57 F basic1 classAxles2 classPercent3 linkFrom4 linkMinutes5 linkPrice6 linkTo7 state14 tagAxles15 tagPlate16 (x2, 0, thrown0, routeMany0, routeCost0, newTrips0, newInvoices0, newAmount8, newClass9, newInvoice10, newPassages11, newVehicle12, route13, tried17, tripFor18)
  else
    rd newAmount8 80 x3 fun a8 =>
    k32 (x2 + a8, x3 + 1, thrown0, routeMany0, routeCost0, newTrips0, newInvoices0, newAmount8, newClass9, newInvoice10, newPassages11, newVehicle12, route13, tried17, tripFor18)
def f_X10_previewTotal_L32 (F : Nat) (basic1 classAxles2 classPercent3 linkFrom4 linkMinutes5 linkPrice6 linkTo7 state14 tagAxles15 tagPlate16 : Nat → Int32) (z : Int32 × Int32 × Int32 × Int32 × Int32 × Int32 × Int32 × (Nat → Int32) × (Nat → Int32) × (Nat → Int32) × (Nat → Int32) × (Nat → Int32) × (Nat → Int32) × (Nat → Int32) × (Nat → Int32)) : Option (Int32 × Int32 × Int32 × Int32 × Int32 × Int32 × (Nat → Int32) × (Nat → Int32) × (Nat → Int32) × (Nat → Int32) × (Nat → Int32) × (Nat → Int32) × (Nat → Int32) × (Nat → Int32)) := lp (fun k z => f_X10_previewTotal_h32 F basic1 classAxles2 classPercent3 linkFrom4 linkMinutes5 linkPrice6 linkTo7 state14 tagAxles15 tagPlate16 k z.1 z.2.1 z.2.2.1 z.2.2.2.1 z.2.2.2.2.1 z.2.2.2.2.2.1 z.2.2.2.2.2.2.1 z.2.2.2.2.2.2.2.1 z.2.2.2.2.2.2.2.2.1 z.2.2.2.2.2.2.2.2.2.1 z.2.2.2.2.2.2.2.2.2.2.1 z.2.2.2.2.2.2.2.2.2.2.2.1 z.2.2.2.2.2.2.2.2.2.2.2.2.1 z.2.2.2.2.2.2.2.2.2.2.2.2.2.1 z.2.2.2.2.2.2.2.2.2.2.2.2.2.2) F z
def f_X10_previewTotal (F : Nat) (p1 thrown0 routeMany0 routeCost0 newTrips0 newInvoices0 : Int32) (basic1 classAxles2 classPercent3 linkFrom4 linkMinutes5 linkPrice6 linkTo7 newAmount8 newClass9 newInvoice10 newPassages11 newVehicle12 route13 state14 tagAxles15 tagPlate16 tried17 tripFor18 : Nat → Int32) : Option (Int32 × Int32 × Int32 × Int32 × Int32 × Int32 × (Nat → Int32) × (Nat → Int32) × (Nat → Int32) × (Nat → Int32) × (Nat → Int32) × (Nat → Int32) × (Nat → Int32) × (Nat → Int32)) :=
  bd1 (f_X10_within F p1.toInt64 0 99999) fun r9 =>
  if r9 = 0 then
    bd2 (f_X10_fail F 1 0) fun r25 o26 =>
    some (r25, o26, routeMany0, routeCost0, newTrips0, newInvoices0, newAmount8, newClass9, newInvoice10, newPassages11, newVehicle12, route13, tried17, tripFor18)
  else
    bd12 (f_X10_layBilling F p1 routeMany0 routeCost0 newTrips0 newInvoices0 basic1 classAxles2 classPercent3 linkFrom4 linkMinutes5 linkPrice6 linkTo7 newAmount8 newClass9 newInvoice10 newPassages11 newVehicle12 route13 state14 tagAxles15 tagPlate16 tried17 tripFor18) fun o12 o13 o14 o15 o16 o17 o18 o19 o20 o21 o22 o23 =>
    f_X10_previewTotal_L32 F basic1 classAxles2 classPercent3 linkFrom4 linkMinutes5 linkPrice6 linkTo7 state14 tagAxles15 tagPlate16 (0, 0, 0, o12, o13, o14, o15, o16, o17, o18, o19, o20, o21, o22, o23)
set_option maxHeartbeats 4000000 in
set_option maxRecDepth 100000 in
theorem c_X10_previewTotal (l : Launch) (g : GT) (F : Nat) (h0 h1 h2 h3 h4 h5 h6 h7 h8 h9 h10 h11 h12 h13 h14 h15 h16 h17 h18 : Nat) (v0_1 v0_2 v0_3 v0_4 v0_5 v0_6 v0_7 v0_8 v0_9 v0_11 v0_20 v0_22 v0_23 v0_24 v0_25 : Value) (p1 thrown0 routeMany0 routeCost0 newTrips0 newInvoices0 : Int32) (basic1 classAxles2 classPercent3 linkFrom4 linkMinutes5 linkPrice6 linkTo7 newAmount8 newClass9 newInvoice10 newPassages11 newVehicle12 route13 state14 tagAxles15 tagPlate16 tried17 tripFor18 : Nat → Int32) (r o_thrown0 o_routeMany0 o_routeCost0 o_newTrips0 o_newInvoices0 : Int32) (o_newAmount8 o_newClass9 o_newInvoice10 o_newPassages11 o_newVehicle12 o_route13 o_tried17 o_tripFor18 : Nat → Int32) (sz : Nat) (hf : f_X10_previewTotal F p1 thrown0 routeMany0 routeCost0 newTrips0 newInvoices0 basic1 classAxles2 classPercent3 linkFrom4 linkMinutes5 linkPrice6 linkTo7 newAmount8 newClass9 newInvoice10 newPassages11 newVehicle12 route13 state14 tagAxles15 tagPlate16 tried17 tripFor18 = some (r, o_thrown0, o_routeMany0, o_routeCost0, o_newTrips0, o_newInvoices0, o_newAmount8, o_newClass9, o_newInvoice10, o_newPassages11, o_newVehicle12, o_route13, o_tried17, o_tripFor18)) : CI l m_X10_previewTotal (rml 10 0 0) g (w_X10_previewTotal g h0 h1 h2 h3 h4 h5 h6 h7 h8 h9 h10 h11 h12 h13 h14 h15 h16 h17 h18 v0_1 v0_2 v0_3 v0_4 v0_5 v0_6 v0_7 v0_8 v0_9 v0_11 v0_20 v0_22 v0_23 v0_24 v0_25 thrown0 routeMany0 routeCost0 newTrips0 newInvoices0 basic1 classAxles2 classPercent3 linkFrom4 linkMinutes5 linkPrice6 linkTo7 newAmount8 newClass9 newInvoice10 newPassages11 newVehicle12 route13 state14 tagAxles15 tagPlate16 tried17 tripFor18) (fun _ => w_X10_previewTotal g h0 h1 h2 h3 h4 h5 h6 h7 h8 h9 h10 h11 h12 h13 h14 h15 h16 h17 h18 v0_1 v0_2 v0_3 v0_4 v0_5 v0_6 v0_7 v0_8 v0_9 v0_11 v0_20 v0_22 v0_23 v0_24 v0_25 o_thrown0 o_routeMany0 o_routeCost0 o_newTrips0 o_newInvoices0 basic1 classAxles2 classPercent3 linkFrom4 linkMinutes5 linkPrice6 linkTo7 o_newAmount8 o_newClass9 o_newInvoice10 o_newPassages11 o_newVehicle12 o_route13 state14 tagAxles15 tagPlate16 o_tried17 o_tripFor18) sz [.ref h0, .int p1] r := by
  refine en_i (by decide) (Nat.le_of_ble_eq_true rfl) (fun p e s m args below meth c A ls C w hl => ?_)
  have C : Cx p s m args meth c RX10 m_X10_previewTotal g A := C
  have hx := C.1
  have hb : c.code = cX10_previewTotal := C.2.1
  have hl : lv_has ls 4 [(0, .ref h0), (1, .int p1)] := hl
  obtain ⟨Q, hQ⟩ : ∃ Q, Q = QI below args s g A (fun _ => w_X10_previewTotal g h0 h1 h2 h3 h4 h5 h6 h7 h8 h9 h10 h11 h12 h13 h14 h15 h16 h17 h18 v0_1 v0_2 v0_3 v0_4 v0_5 v0_6 v0_7 v0_8 v0_9 v0_11 v0_20 v0_22 v0_23 v0_24 v0_25 o_thrown0 o_routeMany0 o_routeCost0 o_newTrips0 o_newInvoices0 basic1 classAxles2 classPercent3 linkFrom4 linkMinutes5 linkPrice6 linkTo7 o_newAmount8 o_newClass9 o_newInvoice10 o_newPassages11 o_newVehicle12 o_route13 state14 tagAxles15 tagPlate16 o_tried17 o_tripFor18) r 0 0 := ⟨_, rfl⟩
  suffices hW : W p l e (rml 10 0 0) s m args below meth c s.heap [] 0 0 Q (F0 m 0 ls []) from (by rw [hQ] at hW; exact hW)
  unfold f_X10_previewTotal at hf
  have L57 : ∀ (z : Int32 × Int32 × Int32 × Int32 × Int32 × Int32 × Int32 × (Nat → Int32) × (Nat → Int32) × (Nat → Int32) × (Nat → Int32) × (Nat → Int32) × (Nat → Int32) × (Nat → Int32) × (Nat → Int32)), f_X10_previewTotal_L57 F basic1 classAxles2 classPercent3 linkFrom4 linkMinutes5 linkPrice6 linkTo7 state14 tagAxles15 tagPlate16 z = some (r, o_thrown0, o_routeMany0, o_routeCost0, o_newTrips0, o_newInvoices0, o_newAmount8, o_newClass9, o_newInvoice10, o_newPassages11, o_newVehicle12, o_route13, o_tried17, o_tripFor18) → ∀ (H : Heap) (locs : List Loc) (ls : Array Slot), Wd g A (w_X10_previewTotal g h0 h1 h2 h3 h4 h5 h6 h7 h8 h9 h10 h11 h12 h13 h14 h15 h16 h17 h18 v0_1 v0_2 v0_3 v0_4 v0_5 v0_6 v0_7 v0_8 v0_9 v0_11 v0_20 v0_22 v0_23 v0_24 v0_25 z.2.2.1 z.2.2.2.1 z.2.2.2.2.1 z.2.2.2.2.2.1 z.2.2.2.2.2.2.1 basic1 classAxles2 classPercent3 linkFrom4 linkMinutes5 linkPrice6 linkTo7 z.2.2.2.2.2.2.2.1 z.2.2.2.2.2.2.2.2.1 z.2.2.2.2.2.2.2.2.2.1 z.2.2.2.2.2.2.2.2.2.2.1 z.2.2.2.2.2.2.2.2.2.2.2.1 z.2.2.2.2.2.2.2.2.2.2.2.2.1 state14 tagAxles15 tagPlate16 z.2.2.2.2.2.2.2.2.2.2.2.2.2.1 z.2.2.2.2.2.2.2.2.2.2.2.2.2.2) s.heap H locs → lv_has ls 4 [(0, .ref h0), (2, .int z.1), (3, .int z.2.1)] → W p l e (rml 10 0 0) s m args below meth c H locs 0 0 Q (F0 m 57 ls []) := by
    intro z hf
    refine lp_W (r := (r, o_thrown0, o_routeMany0, o_routeCost0, o_newTrips0, o_newInvoices0, o_newAmount8, o_newClass9, o_newInvoice10, o_newPassages11, o_newVehicle12, o_route13, o_tried17, o_tripFor18)) (fun (z : Int32 × Int32 × Int32 × Int32 × Int32 × Int32 × Int32 × (Nat → Int32) × (Nat → Int32) × (Nat → Int32) × (Nat → Int32) × (Nat → Int32) × (Nat → Int32) × (Nat → Int32) × (Nat → Int32)) => ∀ (H : Heap) (locs : List Loc) (ls : Array Slot), Wd g A (w_X10_previewTotal g h0 h1 h2 h3 h4 h5 h6 h7 h8 h9 h10 h11 h12 h13 h14 h15 h16 h17 h18 v0_1 v0_2 v0_3 v0_4 v0_5 v0_6 v0_7 v0_8 v0_9 v0_11 v0_20 v0_22 v0_23 v0_24 v0_25 z.2.2.1 z.2.2.2.1 z.2.2.2.2.1 z.2.2.2.2.2.1 z.2.2.2.2.2.2.1 basic1 classAxles2 classPercent3 linkFrom4 linkMinutes5 linkPrice6 linkTo7 z.2.2.2.2.2.2.2.1 z.2.2.2.2.2.2.2.2.1 z.2.2.2.2.2.2.2.2.2.1 z.2.2.2.2.2.2.2.2.2.2.1 z.2.2.2.2.2.2.2.2.2.2.2.1 z.2.2.2.2.2.2.2.2.2.2.2.2.1 state14 tagAxles15 tagPlate16 z.2.2.2.2.2.2.2.2.2.2.2.2.2.1 z.2.2.2.2.2.2.2.2.2.2.2.2.2.2) s.heap H locs → lv_has ls 4 [(0, .ref h0), (2, .int z.1), (3, .int z.2.1)] → W p l e (rml 10 0 0) s m args below meth c H locs 0 0 Q (F0 m 57 ls [])) (fun k57 z ih57 hf => ?_) F z hf
    obtain ⟨x2, x3, thrown0, routeMany0, routeCost0, newTrips0, newInvoices0, newAmount8, newClass9, newInvoice10, newPassages11, newVehicle12, route13, tried17, tripFor18⟩ := z
    intro H locs ls w hl
    try dsimp only at hf w hl ⊢
    unfold f_X10_previewTotal_h57 at hf
    have b89 : ∀ (x3 s0 s1 thrown0 routeMany0 routeCost0 newTrips0 newInvoices0 : Int32) (newAmount8 newClass9 newInvoice10 newPassages11 newVehicle12 route13 tried17 tripFor18 : Nat → Int32) (H : Heap) (locs : List Loc) (ls : Array Slot), f_X10_previewTotal_b89 F k57 basic1 classAxles2 classPercent3 linkFrom4 linkMinutes5 linkPrice6 linkTo7 state14 tagAxles15 tagPlate16 x3 s0 s1 thrown0 routeMany0 routeCost0 newTrips0 newInvoices0 newAmount8 newClass9 newInvoice10 newPassages11 newVehicle12 route13 tried17 tripFor18 = some (r, o_thrown0, o_routeMany0, o_routeCost0, o_newTrips0, o_newInvoices0, o_newAmount8, o_newClass9, o_newInvoice10, o_newPassages11, o_newVehicle12, o_route13, o_tried17, o_tripFor18) → Wd g A (w_X10_previewTotal g h0 h1 h2 h3 h4 h5 h6 h7 h8 h9 h10 h11 h12 h13 h14 h15 h16 h17 h18 v0_1 v0_2 v0_3 v0_4 v0_5 v0_6 v0_7 v0_8 v0_9 v0_11 v0_20 v0_22 v0_23 v0_24 v0_25 thrown0 routeMany0 routeCost0 newTrips0 newInvoices0 basic1 classAxles2 classPercent3 linkFrom4 linkMinutes5 linkPrice6 linkTo7 newAmount8 newClass9 newInvoice10 newPassages11 newVehicle12 route13 state14 tagAxles15 tagPlate16 tried17 tripFor18) s.heap H locs → lv_has ls 4 [(0, .ref h0), (3, .int x3)] → W p l e (rml 10 0 0) s m args below meth c H locs 0 0 Q (F0 m 89 ls [.int s0, .int s1]) := by
      intro x3 s0 s1 thrown0 routeMany0 routeCost0 newTrips0 newInvoices0 newAmount8 newClass9 newInvoice10 newPassages11 newVehicle12 route13 tried17 tripFor18 H locs ls hf w hl
      unfold f_X10_previewTotal_b89 at hf
      refine lv_iadd hx hb dX10_previewTotal_89 ?_
      refine lv_istore_n (lv' := [(2, .int (s1 + s0)), (0, .ref h0), (3, .int x3)]) hx hb dX10_previewTotal_90 rfl hl (by decide) rfl (fun ls hl => ?_)
      refine lv_iinc (v := x3 + 1) (lv' := [(3, .int (x3 + 1)), (2, .int (s1 + s0)), (0, .ref h0)]) hx hb dX10_previewTotal_91 hl (k := 2) rfl rfl (by decide) rfl (fun ls hl => ?_)
      refine lv_goto (tgt := 57) hx hb dX10_previewTotal_94 (by decide) ?_
      exact ih57 (s1 + s0, x3 + 1, thrown0, routeMany0, routeCost0, newTrips0, newInvoices0, newAmount8, newClass9, newInvoice10, newPassages11, newVehicle12, route13, tried17, tripFor18) hf _ _ _ w (lv_sub hl [2, 1, 0] rfl)
    refine lv_iload_n hx hb dX10_previewTotal_57 rfl (lv_at hl 2 rfl) ?_
    refine lv_aload_n hx hb dX10_previewTotal_58 rfl (lv_at hl 0 rfl) ?_
    refine g_X10_283 C w 0 rfl rfl dX10_previewTotal_59 ?_
    refine lv_icmp_ge (tgt := 97) hx hb dX10_previewTotal_62 (by decide) (fun c1 => ?_) (fun c1 => ?_)
    · replace hf := it_t c1 hf
      refine lv_iload_n hx hb dX10_previewTotal_97 rfl (lv_at hl 1 rfl) ?_
      obtain ⟨e1, e2, e3, e4, e5, e6, e7, e8, e9, e10, e11, e12, e13, e14⟩ := tp14 hf
      rw [hQ]
      exact rt_i C w rfl (fun _ => 0) (by rw [← e2, ← e3, ← e4, ← e5, ← e6, ← e7, ← e8, ← e9, ← e10, ← e11, ← e12, ← e13, ← e14]) e1 dX10_previewTotal_98
    · replace hf := it_f c1 hf
      refine lv_iload_n hx hb dX10_previewTotal_65 rfl (lv_at hl 1 rfl) ?_
      refine lv_aload_n hx hb dX10_previewTotal_66 rfl (lv_at hl 0 rfl) ?_
      refine g_X10_75 C w 0 rfl rfl dX10_previewTotal_67 ?_
      refine lv_iload_n hx hb dX10_previewTotal_70 rfl (lv_at hl 2 rfl) ?_
      obtain ⟨a2, hia2, haa2, hf⟩ := rd_some hf
      refine ial C w 12 rfl hia2 haa2 dX10_previewTotal_71 ?_
      obtain ⟨r3, hc4, hf⟩ := bd1_some hf
      refine ca_iS C w (wn := fun _ => w_X10_previewTotal g h0 h1 h2 h3 h4 h5 h6 h7 h8 h9 h10 h11 h12 h13 h14 h15 h16 h17 h18 v0_1 v0_2 v0_3 v0_4 v0_5 v0_6 v0_7 v0_8 v0_9 v0_11 v0_20 v0_22 v0_23 v0_24 v0_25 thrown0 routeMany0 routeCost0 newTrips0 newInvoices0 basic1 classAxles2 classPercent3 linkFrom4 linkMinutes5 linkPrice6 linkTo7 newAmount8 newClass9 newInvoice10 newPassages11 newVehicle12 route13 state14 tagAxles15 tagPlate16 tried17 tripFor18) (pm_k [false, false, false, false, false, false, false, false, false, false, false, false, false, false, false, false, false, false, false] rfl rfl (fun _ => Nat.le_of_ble_eq_true rfl) (fun _ => rfl)) (c_X10_isTag l g F a2 r3 _ hc4) k_X10_268 (rm_le (by decide) (by decide)) rfl hl.1 rfl (Nat.le_of_ble_eq_true rfl) dX10_previewTotal_72 ⟨Nat.le_of_ble_eq_true rfl, Nat.le_of_ble_eq_true rfl⟩ (cells2 := 0) (slots2 := 0) ⟨rfl, rfl⟩ (fun _ H locs w => ?_)
      refine lv_if_eq (tgt := 82) hx hb dX10_previewTotal_75 (by decide) (fun c5 => ?_) (fun c5 => ?_)
      · replace hf := it_t c5 hf
        refine lv_aload_n hx hb dX10_previewTotal_82 rfl (lv_at hl 0 rfl) ?_
        refine g_X10_13 C w 0 rfl rfl dX10_previewTotal_83 ?_
        refine lv_bipush (v := 6) hx hb dX10_previewTotal_86 (by decide) ?_
        obtain ⟨a6, hia6, haa6, hf⟩ := rd_some hf
        refine ial C w 1 rfl hia6 haa6 dX10_previewTotal_88 ?_
        exact b89 x3 a6 x2 thrown0 routeMany0 routeCost0 newTrips0 newInvoices0 newAmount8 newClass9 newInvoice10 newPassages11 newVehicle12 route13 tried17 tripFor18 _ _ _ hf w (lv_sub hl [0, 2] rfl)
      · replace hf := it_f c5 hf
        refine lv_iconst (v := 0) hx hb dX10_previewTotal_78 (by decide) ?_
        refine lv_goto (tgt := 89) hx hb dX10_previewTotal_79 (by decide) ?_
        exact b89 x3 0 x2 thrown0 routeMany0 routeCost0 newTrips0 newInvoices0 newAmount8 newClass9 newInvoice10 newPassages11 newVehicle12 route13 tried17 tripFor18 _ _ _ hf w (lv_sub hl [0, 2] rfl)
  have L32 : ∀ (z : Int32 × Int32 × Int32 × Int32 × Int32 × Int32 × Int32 × (Nat → Int32) × (Nat → Int32) × (Nat → Int32) × (Nat → Int32) × (Nat → Int32) × (Nat → Int32) × (Nat → Int32) × (Nat → Int32)), f_X10_previewTotal_L32 F basic1 classAxles2 classPercent3 linkFrom4 linkMinutes5 linkPrice6 linkTo7 state14 tagAxles15 tagPlate16 z = some (r, o_thrown0, o_routeMany0, o_routeCost0, o_newTrips0, o_newInvoices0, o_newAmount8, o_newClass9, o_newInvoice10, o_newPassages11, o_newVehicle12, o_route13, o_tried17, o_tripFor18) → ∀ (H : Heap) (locs : List Loc) (ls : Array Slot), Wd g A (w_X10_previewTotal g h0 h1 h2 h3 h4 h5 h6 h7 h8 h9 h10 h11 h12 h13 h14 h15 h16 h17 h18 v0_1 v0_2 v0_3 v0_4 v0_5 v0_6 v0_7 v0_8 v0_9 v0_11 v0_20 v0_22 v0_23 v0_24 v0_25 z.2.2.1 z.2.2.2.1 z.2.2.2.2.1 z.2.2.2.2.2.1 z.2.2.2.2.2.2.1 basic1 classAxles2 classPercent3 linkFrom4 linkMinutes5 linkPrice6 linkTo7 z.2.2.2.2.2.2.2.1 z.2.2.2.2.2.2.2.2.1 z.2.2.2.2.2.2.2.2.2.1 z.2.2.2.2.2.2.2.2.2.2.1 z.2.2.2.2.2.2.2.2.2.2.2.1 z.2.2.2.2.2.2.2.2.2.2.2.2.1 state14 tagAxles15 tagPlate16 z.2.2.2.2.2.2.2.2.2.2.2.2.2.1 z.2.2.2.2.2.2.2.2.2.2.2.2.2.2) s.heap H locs → lv_has ls 4 [(0, .ref h0), (2, .int z.1), (3, .int z.2.1)] → W p l e (rml 10 0 0) s m args below meth c H locs 0 0 Q (F0 m 32 ls []) := by
    intro z hf
    refine lp_W (r := (r, o_thrown0, o_routeMany0, o_routeCost0, o_newTrips0, o_newInvoices0, o_newAmount8, o_newClass9, o_newInvoice10, o_newPassages11, o_newVehicle12, o_route13, o_tried17, o_tripFor18)) (fun (z : Int32 × Int32 × Int32 × Int32 × Int32 × Int32 × Int32 × (Nat → Int32) × (Nat → Int32) × (Nat → Int32) × (Nat → Int32) × (Nat → Int32) × (Nat → Int32) × (Nat → Int32) × (Nat → Int32)) => ∀ (H : Heap) (locs : List Loc) (ls : Array Slot), Wd g A (w_X10_previewTotal g h0 h1 h2 h3 h4 h5 h6 h7 h8 h9 h10 h11 h12 h13 h14 h15 h16 h17 h18 v0_1 v0_2 v0_3 v0_4 v0_5 v0_6 v0_7 v0_8 v0_9 v0_11 v0_20 v0_22 v0_23 v0_24 v0_25 z.2.2.1 z.2.2.2.1 z.2.2.2.2.1 z.2.2.2.2.2.1 z.2.2.2.2.2.2.1 basic1 classAxles2 classPercent3 linkFrom4 linkMinutes5 linkPrice6 linkTo7 z.2.2.2.2.2.2.2.1 z.2.2.2.2.2.2.2.2.1 z.2.2.2.2.2.2.2.2.2.1 z.2.2.2.2.2.2.2.2.2.2.1 z.2.2.2.2.2.2.2.2.2.2.2.1 z.2.2.2.2.2.2.2.2.2.2.2.2.1 state14 tagAxles15 tagPlate16 z.2.2.2.2.2.2.2.2.2.2.2.2.2.1 z.2.2.2.2.2.2.2.2.2.2.2.2.2.2) s.heap H locs → lv_has ls 4 [(0, .ref h0), (2, .int z.1), (3, .int z.2.1)] → W p l e (rml 10 0 0) s m args below meth c H locs 0 0 Q (F0 m 32 ls [])) (fun k32 z ih32 hf => ?_) F z hf
    obtain ⟨x2, x3, thrown0, routeMany0, routeCost0, newTrips0, newInvoices0, newAmount8, newClass9, newInvoice10, newPassages11, newVehicle12, route13, tried17, tripFor18⟩ := z
    intro H locs ls w hl
    try dsimp only at hf w hl ⊢
    unfold f_X10_previewTotal_h32 at hf
    refine lv_iload_n hx hb dX10_previewTotal_32 rfl (lv_at hl 2 rfl) ?_
    refine lv_aload_n hx hb dX10_previewTotal_33 rfl (lv_at hl 0 rfl) ?_
    refine g_X10_292 C w 0 rfl rfl dX10_previewTotal_34 ?_
    refine lv_icmp_ge (tgt := 55) hx hb dX10_previewTotal_37 (by decide) (fun c7 => ?_) (fun c7 => ?_)
    · replace hf := it_t c7 hf
      refine lv_iconst (v := 0) hx hb dX10_previewTotal_55 (by decide) ?_
      refine lv_istore_n (lv' := [(3, .int 0), (0, .ref h0), (2, .int x2)]) hx hb dX10_previewTotal_56 rfl hl (by decide) rfl (fun ls hl => ?_)
      exact L57 (x2, 0, thrown0, routeMany0, routeCost0, newTrips0, newInvoices0, newAmount8, newClass9, newInvoice10, newPassages11, newVehicle12, route13, tried17, tripFor18) hf _ _ _ w (lv_sub hl [1, 2, 0] rfl)
    · replace hf := it_f c7 hf
      refine lv_iload_n hx hb dX10_previewTotal_40 rfl (lv_at hl 1 rfl) ?_
      refine lv_aload_n hx hb dX10_previewTotal_41 rfl (lv_at hl 0 rfl) ?_
      refine g_X10_66 C w 0 rfl rfl dX10_previewTotal_42 ?_
      refine lv_iload_n hx hb dX10_previewTotal_45 rfl (lv_at hl 2 rfl) ?_
      obtain ⟨a8, hia8, haa8, hf⟩ := rd_some hf
      refine ial C w 8 rfl hia8 haa8 dX10_previewTotal_46 ?_
      refine lv_iadd hx hb dX10_previewTotal_47 ?_
      refine lv_istore_n (lv' := [(2, .int (x2 + a8)), (0, .ref h0), (3, .int x3)]) hx hb dX10_previewTotal_48 rfl hl (by decide) rfl (fun ls hl => ?_)
      refine lv_iinc (v := x3 + 1) (lv' := [(3, .int (x3 + 1)), (2, .int (x2 + a8)), (0, .ref h0)]) hx hb dX10_previewTotal_49 hl (k := 2) rfl rfl (by decide) rfl (fun ls hl => ?_)
      refine lv_goto (tgt := 32) hx hb dX10_previewTotal_52 (by decide) ?_
      exact ih32 (x2 + a8, x3 + 1, thrown0, routeMany0, routeCost0, newTrips0, newInvoices0, newAmount8, newClass9, newInvoice10, newPassages11, newVehicle12, route13, tried17, tripFor18) hf _ _ _ w (lv_sub hl [2, 1, 0] rfl)
  refine lv_aload_n hx hb dX10_previewTotal_0 rfl (lv_at hl 0 rfl) ?_
  refine lv_iconst (v := 0) hx hb dX10_previewTotal_1 (by decide) ?_
  refine p_X10_84 C w 0 rfl (Nat.le_of_ble_eq_true rfl) (ws2 := w_X10_previewTotal g h0 h1 h2 h3 h4 h5 h6 h7 h8 h9 h10 h11 h12 h13 h14 h15 h16 h17 h18 v0_1 v0_2 v0_3 v0_4 v0_5 v0_6 v0_7 v0_8 v0_9 v0_11 v0_20 v0_22 v0_23 v0_24 v0_25 0 routeMany0 routeCost0 newTrips0 newInvoices0 basic1 classAxles2 classPercent3 linkFrom4 linkMinutes5 linkPrice6 linkTo7 newAmount8 newClass9 newInvoice10 newPassages11 newVehicle12 route13 state14 tagAxles15 tagPlate16 tried17 tripFor18) rfl dX10_previewTotal_2 (fun H locs w => ?_)
  refine lv_iload_n hx hb dX10_previewTotal_5 rfl (lv_at hl 1 rfl) ?_
  refine lv_i2l (v := p1.toInt64) hx hb dX10_previewTotal_6 rfl ?_
  refine lv_lconst (v := 0) hx hb dX10_previewTotal_7 (by decide) ?_
  refine lv_ldc2 (v := 99999) hx hb C.2.2.2.1 (C.2.2.2.2.1 _ q_1467) dX10_previewTotal_8 ?_
  obtain ⟨r9, hc10, hf⟩ := bd1_some hf
  refine ca_iS C w (wn := fun _ => w_X10_previewTotal g h0 h1 h2 h3 h4 h5 h6 h7 h8 h9 h10 h11 h12 h13 h14 h15 h16 h17 h18 v0_1 v0_2 v0_3 v0_4 v0_5 v0_6 v0_7 v0_8 v0_9 v0_11 v0_20 v0_22 v0_23 v0_24 v0_25 0 routeMany0 routeCost0 newTrips0 newInvoices0 basic1 classAxles2 classPercent3 linkFrom4 linkMinutes5 linkPrice6 linkTo7 newAmount8 newClass9 newInvoice10 newPassages11 newVehicle12 route13 state14 tagAxles15 tagPlate16 tried17 tripFor18) (pm_k [false, false, false, false, false, false, false, false, false, false, false, false, false, false, false, false, false, false, false] rfl rfl (fun _ => Nat.le_of_ble_eq_true rfl) (fun _ => rfl)) (c_X10_within l g F p1.toInt64 0 99999 r9 _ hc10) k_X10_115 (rm_le (by decide) (by decide)) rfl hl.1 rfl (Nat.le_of_ble_eq_true rfl) dX10_previewTotal_11 ⟨Nat.le_of_ble_eq_true rfl, Nat.le_of_ble_eq_true rfl⟩ (cells2 := 0) (slots2 := 0) ⟨rfl, rfl⟩ (fun _ H locs w => ?_)
  refine lv_if_ne (tgt := 23) hx hb dX10_previewTotal_14 (by decide) (fun c11 => ?_) (fun c11 => ?_)
  · replace hf := it_f c11 hf
    refine lv_aload_n hx hb dX10_previewTotal_23 rfl (lv_at hl 0 rfl) ?_
    refine lv_iload_n hx hb dX10_previewTotal_24 rfl (lv_at hl 1 rfl) ?_
    obtain ⟨o12, o13, o14, o15, o16, o17, o18, o19, o20, o21, o22, o23, hc24, hf⟩ := bd12_some hf
    refine ca_vV C w (wn := fun _ => w_X10_previewTotal g h0 h1 h2 h3 h4 h5 h6 h7 h8 h9 h10 h11 h12 h13 h14 h15 h16 h17 h18 v0_1 v0_2 v0_3 v0_4 v0_5 v0_6 v0_7 v0_8 v0_9 v0_11 v0_20 v0_22 v0_23 v0_24 v0_25 0 o12 o13 o14 o15 basic1 classAxles2 classPercent3 linkFrom4 linkMinutes5 linkPrice6 linkTo7 o16 o17 o18 o19 o20 o21 state14 tagAxles15 tagPlate16 o22 o23) (pm_k [true, true, true, true, true, true, true, true, true, true, true, true, true, true, true, true, true, true, true] rfl rfl (fun _ => Nat.le_of_ble_eq_true rfl) (fun _ => rfl)) (c_X10_layBilling l g F h0 h1 h2 h3 h4 h5 h6 h7 h8 h9 h10 h11 h12 h13 h14 h15 h16 h17 h18 (.int 0) v0_1 v0_2 v0_3 v0_4 v0_5 v0_6 v0_7 v0_8 v0_9 v0_11 v0_20 v0_22 v0_23 v0_24 v0_25 p1 routeMany0 routeCost0 newTrips0 newInvoices0 basic1 classAxles2 classPercent3 linkFrom4 linkMinutes5 linkPrice6 linkTo7 newAmount8 newClass9 newInvoice10 newPassages11 newVehicle12 route13 state14 tagAxles15 tagPlate16 tried17 tripFor18 o12 o13 o14 o15 o16 o17 o18 o19 o20 o21 o22 o23 _ hc24) k_X10_313 (rm_le (by decide) (by decide)) 0 10 rfl rfl rfl rfl hl.1 rfl (Nat.le_of_ble_eq_true rfl) dX10_previewTotal_25 ⟨Nat.le_of_ble_eq_true rfl, Nat.le_of_ble_eq_true rfl⟩ (cells2 := 0) (slots2 := 0) ⟨rfl, rfl⟩ (fun _ H locs w => ?_)
    refine lv_iconst (v := 0) hx hb dX10_previewTotal_28 (by decide) ?_
    refine lv_istore_n (lv' := [(2, .int 0), (0, .ref h0), (1, .int p1)]) hx hb dX10_previewTotal_29 rfl hl (by decide) rfl (fun ls hl => ?_)
    refine lv_iconst (v := 0) hx hb dX10_previewTotal_30 (by decide) ?_
    refine lv_istore_n (lv' := [(3, .int 0), (2, .int 0), (0, .ref h0), (1, .int p1)]) hx hb dX10_previewTotal_31 rfl hl (by decide) rfl (fun ls hl => ?_)
    exact L32 (0, 0, 0, o12, o13, o14, o15, o16, o17, o18, o19, o20, o21, o22, o23) hf _ _ _ w (lv_sub hl [2, 1, 0] rfl)
  · replace hf := it_t c11 hf
    refine lv_aload_n hx hb dX10_previewTotal_17 rfl (lv_at hl 0 rfl) ?_
    refine lv_iconst (v := 1) hx hb dX10_previewTotal_18 (by decide) ?_
    obtain ⟨r25, o26, hc27, hf⟩ := bd2_some hf
    refine ca_iV C w (wn := fun _ => w_X10_previewTotal g h0 h1 h2 h3 h4 h5 h6 h7 h8 h9 h10 h11 h12 h13 h14 h15 h16 h17 h18 v0_1 v0_2 v0_3 v0_4 v0_5 v0_6 v0_7 v0_8 v0_9 v0_11 v0_20 v0_22 v0_23 v0_24 v0_25 o26 routeMany0 routeCost0 newTrips0 newInvoices0 basic1 classAxles2 classPercent3 linkFrom4 linkMinutes5 linkPrice6 linkTo7 newAmount8 newClass9 newInvoice10 newPassages11 newVehicle12 route13 state14 tagAxles15 tagPlate16 tried17 tripFor18) (pm_k [true, false, false, false, false, false, false, false, false, false, false, false, false, false, false, false, false, false, false] rfl rfl (fun _ => Nat.le_of_ble_eq_true rfl) (fun _ => rfl)) (c_X10_fail l g F h0 v0_1 v0_2 v0_3 v0_4 v0_5 v0_6 v0_7 v0_8 v0_9 (.ref h1) v0_11 (.ref h4) (.ref h7) (.ref h5) (.ref h6) (.ref h2) (.ref h3) (.ref h16) (.ref h15) v0_20 (.ref h14) v0_22 v0_23 v0_24 v0_25 (.int routeMany0) (.int routeCost0) (.ref h13) (.ref h17) (.ref h10) (.ref h8) (.ref h9) (.ref h11) (.ref h12) (.ref h18) (.int newTrips0) (.int newInvoices0) 1 0 r25 o26 _ hc27) k_X10_202 (rm_le (by decide) (by decide)) 0 10 rfl rfl rfl rfl hl.1 rfl (Nat.le_of_ble_eq_true rfl) dX10_previewTotal_19 ⟨Nat.le_of_ble_eq_true rfl, Nat.le_of_ble_eq_true rfl⟩ (cells2 := 0) (slots2 := 0) ⟨rfl, rfl⟩ (fun _ H locs w => ?_)
    obtain ⟨e1, e2, e3, e4, e5, e6, e7, e8, e9, e10, e11, e12, e13, e14⟩ := tp14 hf
    rw [hQ]
    exact rt_i C w rfl (fun _ => 0) (by rw [← e2, ← e3, ← e4, ← e5, ← e6, ← e7, ← e8, ← e9, ← e10, ← e11, ← e12, ← e13, ← e14]) e1 dX10_previewTotal_22

theorem dX10_tripCount_0 : decode cX10_tripCount 0 = .ok (.aload_n 0, 1) := by decide +kernel
theorem dX10_tripCount_1 : decode cX10_tripCount 1 = .ok (.aload_n 0, 1) := by decide +kernel
theorem dX10_tripCount_2 : decode cX10_tripCount 2 = .ok (.getfield 44, 3) := by decide +kernel
theorem dX10_tripCount_5 : decode cX10_tripCount 5 = .ok (.iconst 1, 1) := by decide +kernel
theorem dX10_tripCount_6 : decode cX10_tripCount 6 = .ok (.iaload, 1) := by decide +kernel
theorem dX10_tripCount_7 : decode cX10_tripCount 7 = .ok (.invokevirtual 215, 3) := by decide +kernel
theorem dX10_tripCount_10 : decode cX10_tripCount 10 = .ok (.ireturn, 1) := by decide +kernel
abbrev m_X10_tripCount : MD := (yX10_tripCount, cX10_tripCount, 1, (some .int))

abbrev w_X10_tripCount (g : GT) (h0 h1 : Nat) (v0_1 v0_2 v0_3 v0_4 v0_5 v0_6 v0_7 v0_8 v0_9 v0_10 v0_11 v0_12 v0_13 v0_14 v0_15 v0_16 v0_17 v0_18 v0_19 v0_20 v0_22 v0_23 v0_24 v0_25 v0_26 v0_27 v0_28 v0_29 v0_30 v0_31 v0_32 v0_33 v0_34 v0_35 v0_36 v0_37 : Value) (thrown0 : Int32) (state1 : Nat → Int32) : va_W := [(h0, .inr (10, [.int thrown0, v0_1, v0_2, v0_3, v0_4, v0_5, v0_6, v0_7, v0_8, v0_9, v0_10, v0_11, v0_12, v0_13, v0_14, v0_15, v0_16, v0_17, v0_18, v0_19, v0_20, .ref h1, v0_22, v0_23, v0_24, v0_25, v0_26, v0_27, v0_28, v0_29, v0_30, v0_31, v0_32, v0_33, v0_34, v0_35, v0_36, v0_37])), (h1, aI g 2524 state1)]
def f_X10_tripCount (F : Nat) (thrown0 : Int32) (state1 : Nat → Int32) : Option (Int32 × Int32) :=
  rd state1 2524 1 fun a1 =>
  bd2 (f_X10_told F a1 thrown0) fun r2 o3 =>
  some (r2, o3)
set_option maxHeartbeats 4000000 in
set_option maxRecDepth 100000 in
theorem c_X10_tripCount (l : Launch) (g : GT) (F : Nat) (h0 h1 : Nat) (v0_1 v0_2 v0_3 v0_4 v0_5 v0_6 v0_7 v0_8 v0_9 v0_10 v0_11 v0_12 v0_13 v0_14 v0_15 v0_16 v0_17 v0_18 v0_19 v0_20 v0_22 v0_23 v0_24 v0_25 v0_26 v0_27 v0_28 v0_29 v0_30 v0_31 v0_32 v0_33 v0_34 v0_35 v0_36 v0_37 : Value) (thrown0 : Int32) (state1 : Nat → Int32) (r o_thrown0 : Int32) (sz : Nat) (hf : f_X10_tripCount F thrown0 state1 = some (r, o_thrown0)) : CI l m_X10_tripCount (rml 1 0 0) g (w_X10_tripCount g h0 h1 v0_1 v0_2 v0_3 v0_4 v0_5 v0_6 v0_7 v0_8 v0_9 v0_10 v0_11 v0_12 v0_13 v0_14 v0_15 v0_16 v0_17 v0_18 v0_19 v0_20 v0_22 v0_23 v0_24 v0_25 v0_26 v0_27 v0_28 v0_29 v0_30 v0_31 v0_32 v0_33 v0_34 v0_35 v0_36 v0_37 thrown0 state1) (fun _ => w_X10_tripCount g h0 h1 v0_1 v0_2 v0_3 v0_4 v0_5 v0_6 v0_7 v0_8 v0_9 v0_10 v0_11 v0_12 v0_13 v0_14 v0_15 v0_16 v0_17 v0_18 v0_19 v0_20 v0_22 v0_23 v0_24 v0_25 v0_26 v0_27 v0_28 v0_29 v0_30 v0_31 v0_32 v0_33 v0_34 v0_35 v0_36 v0_37 o_thrown0 state1) sz [.ref h0] r := by
  refine en_i (by decide) (Nat.le_of_ble_eq_true rfl) (fun p e s m args below meth c A ls C w hl => ?_)
  have C : Cx p s m args meth c RX10 m_X10_tripCount g A := C
  have hx := C.1
  have hb : c.code = cX10_tripCount := C.2.1
  have hl : lv_has ls 1 [(0, .ref h0)] := hl
  obtain ⟨Q, hQ⟩ : ∃ Q, Q = QI below args s g A (fun _ => w_X10_tripCount g h0 h1 v0_1 v0_2 v0_3 v0_4 v0_5 v0_6 v0_7 v0_8 v0_9 v0_10 v0_11 v0_12 v0_13 v0_14 v0_15 v0_16 v0_17 v0_18 v0_19 v0_20 v0_22 v0_23 v0_24 v0_25 v0_26 v0_27 v0_28 v0_29 v0_30 v0_31 v0_32 v0_33 v0_34 v0_35 v0_36 v0_37 o_thrown0 state1) r 0 0 := ⟨_, rfl⟩
  suffices hW : W p l e (rml 1 0 0) s m args below meth c s.heap [] 0 0 Q (F0 m 0 ls []) from (by rw [hQ] at hW; exact hW)
  unfold f_X10_tripCount at hf
  refine lv_aload_n hx hb dX10_tripCount_0 rfl (lv_at hl 0 rfl) ?_
  refine lv_aload_n hx hb dX10_tripCount_1 rfl (lv_at hl 0 rfl) ?_
  refine g_X10_44 C w 0 rfl rfl dX10_tripCount_2 ?_
  refine lv_iconst (v := 1) hx hb dX10_tripCount_5 (by decide) ?_
  obtain ⟨a1, hia1, haa1, hf⟩ := rd_some hf
  refine ial C w 1 rfl hia1 haa1 dX10_tripCount_6 ?_
  obtain ⟨r2, o3, hc4, hf⟩ := bd2_some hf
  refine ca_iV C w (wn := fun _ => w_X10_tripCount g h0 h1 v0_1 v0_2 v0_3 v0_4 v0_5 v0_6 v0_7 v0_8 v0_9 v0_10 v0_11 v0_12 v0_13 v0_14 v0_15 v0_16 v0_17 v0_18 v0_19 v0_20 v0_22 v0_23 v0_24 v0_25 v0_26 v0_27 v0_28 v0_29 v0_30 v0_31 v0_32 v0_33 v0_34 v0_35 v0_36 v0_37 o3 state1) (pm_k [true, false] rfl rfl (fun _ => Nat.le_of_ble_eq_true rfl) (fun _ => rfl)) (c_X10_told l g F h0 v0_1 v0_2 v0_3 v0_4 v0_5 v0_6 v0_7 v0_8 v0_9 v0_10 v0_11 v0_12 v0_13 v0_14 v0_15 v0_16 v0_17 v0_18 v0_19 v0_20 (.ref h1) v0_22 v0_23 v0_24 v0_25 v0_26 v0_27 v0_28 v0_29 v0_30 v0_31 v0_32 v0_33 v0_34 v0_35 v0_36 v0_37 a1 thrown0 r2 o3 _ hc4) k_X10_215 (rm_le (by decide) (by decide)) 0 10 rfl rfl rfl rfl hl.1 rfl (Nat.le_of_ble_eq_true rfl) dX10_tripCount_7 ⟨Nat.le_of_ble_eq_true rfl, Nat.le_of_ble_eq_true rfl⟩ (cells2 := 0) (slots2 := 0) ⟨rfl, rfl⟩ (fun _ H locs w => ?_)
  obtain ⟨e1, e2⟩ := tp2 hf
  rw [hQ]
  exact rt_i C w rfl (fun _ => 0) (by rw [← e2]) e1 dX10_tripCount_10

theorem dX10_lookTrip_0 : decode cX10_lookTrip 0 = .ok (.aload_n 0, 1) := by decide +kernel
theorem dX10_lookTrip_1 : decode cX10_lookTrip 1 = .ok (.iconst 0, 1) := by decide +kernel
theorem dX10_lookTrip_2 : decode cX10_lookTrip 2 = .ok (.putfield 84, 3) := by decide +kernel
theorem dX10_lookTrip_5 : decode cX10_lookTrip 5 = .ok (.aload_n 0, 1) := by decide +kernel
theorem dX10_lookTrip_6 : decode cX10_lookTrip 6 = .ok (.iload_n 1, 1) := by decide +kernel
theorem dX10_lookTrip_7 : decode cX10_lookTrip 7 = .ok (.invokevirtual 316, 3) := by decide +kernel
theorem dX10_lookTrip_10 : decode cX10_lookTrip 10 = .ok (.ifCond .eq 12, 3) := by decide +kernel
theorem dX10_lookTrip_13 : decode cX10_lookTrip 13 = .ok (.aload_n 0, 1) := by decide +kernel
theorem dX10_lookTrip_14 : decode cX10_lookTrip 14 = .ok (.iload_n 1, 1) := by decide +kernel
theorem dX10_lookTrip_15 : decode cX10_lookTrip 15 = .ok (.iload_n 2, 1) := by decide +kernel
theorem dX10_lookTrip_16 : decode cX10_lookTrip 16 = .ok (.invokevirtual 319, 3) := by decide +kernel
theorem dX10_lookTrip_19 : decode cX10_lookTrip 19 = .ok (.goto 8, 3) := by decide +kernel
theorem dX10_lookTrip_22 : decode cX10_lookTrip 22 = .ok (.aload_n 0, 1) := by decide +kernel
theorem dX10_lookTrip_23 : decode cX10_lookTrip 23 = .ok (.iconst 1, 1) := by decide +kernel
theorem dX10_lookTrip_24 : decode cX10_lookTrip 24 = .ok (.invokevirtual 202, 3) := by decide +kernel
theorem dX10_lookTrip_27 : decode cX10_lookTrip 27 = .ok (.ireturn, 1) := by decide +kernel
abbrev m_X10_lookTrip : MD := (yX10_lookTrip, cX10_lookTrip, 3, (some .int))
theorem q_1631 : Cond.code yX10_isTrip cX10_isTrip 2 (some .boolean) ∈ TS := ts_t 1631 (by decide +kernel) (by decide +kernel)
theorem q_1628 : Cond.methodLink RX10 316 yX10_isTrip ∈ TS := ts_t 1628 (by decide +kernel) (by decide +kernel)
theorem q_1630 : Cond.instanceMethod yX10_isTrip ∈ TS := ts_t 1630 (by decide +kernel) (by decide +kernel)
theorem qs_124 : Cond.selects yX10_isTrip.cls yX10_isTrip yX10_isTrip ∈ TS := ts_s 124 (by decide +kernel) (by decide +kernel)
theorem k_X10_316 : LkV RX10 316 m_X10_isTrip 1 := ⟨q_1628, q_1630, qs_124, ⟨q_11, q_1631, by decide, by decide, by decide +kernel⟩⟩
theorem q_1635 : Cond.code yX10_ofTrip cX10_ofTrip 3 (some .int) ∈ TS := ts_t 1635 (by decide +kernel) (by decide +kernel)
theorem q_1632 : Cond.methodLink RX10 319 yX10_ofTrip ∈ TS := ts_t 1632 (by decide +kernel) (by decide +kernel)
theorem q_1634 : Cond.instanceMethod yX10_ofTrip ∈ TS := ts_t 1634 (by decide +kernel) (by decide +kernel)
theorem qs_125 : Cond.selects yX10_ofTrip.cls yX10_ofTrip yX10_ofTrip ∈ TS := ts_s 125 (by decide +kernel) (by decide +kernel)
theorem k_X10_319 : LkV RX10 319 m_X10_ofTrip 2 := ⟨q_1632, q_1634, qs_125, ⟨q_11, q_1635, by decide, by decide, by decide +kernel⟩⟩
abbrev w_X10_lookTrip (g : GT) (h0 h1 : Nat) (v0_1 v0_2 v0_3 v0_4 v0_5 v0_6 v0_7 v0_8 v0_9 v0_10 v0_11 v0_12 v0_13 v0_14 v0_15 v0_16 v0_17 v0_18 v0_19 v0_20 v0_22 v0_23 v0_24 v0_25 v0_26 v0_27 v0_28 v0_29 v0_30 v0_31 v0_32 v0_33 v0_34 v0_35 v0_36 v0_37 : Value) (thrown0 : Int32) (state1 : Nat → Int32) : va_W := [(h0, .inr (10, [.int thrown0, v0_1, v0_2, v0_3, v0_4, v0_5, v0_6, v0_7, v0_8, v0_9, v0_10, v0_11, v0_12, v0_13, v0_14, v0_15, v0_16, v0_17, v0_18, v0_19, v0_20, .ref h1, v0_22, v0_23, v0_24, v0_25, v0_26, v0_27, v0_28, v0_29, v0_30, v0_31, v0_32, v0_33, v0_34, v0_35, v0_36, v0_37])), (h1, aI g 2524 state1)]
def f_X10_lookTrip_b27 (F : Nat) (state1 : Nat → Int32) (s0 thrown0 : Int32) : Option (Int32 × Int32) :=
  some (s0, thrown0)
def f_X10_lookTrip (F : Nat) (p1 p2 thrown0 : Int32) (state1 : Nat → Int32) : Option (Int32 × Int32) :=
  bd1 (f_X10_isTrip F p1 state1) fun r1 =>
  if r1 = 0 then
    bd2 (f_X10_fail F 1 0) fun r4 o5 =>
    f_X10_lookTrip_b27 F state1 r4 o5
  else
    bd1 (f_X10_ofTrip F p1 p2 state1) fun r7 =>
    f_X10_lookTrip_b27 F state1 r7 0
set_option maxHeartbeats 4000000 in
set_option maxRecDepth 100000 in
theorem c_X10_lookTrip (l : Launch) (g : GT) (F : Nat) (h0 h1 : Nat) (v0_1 v0_2 v0_3 v0_4 v0_5 v0_6 v0_7 v0_8 v0_9 v0_10 v0_11 v0_12 v0_13 v0_14 v0_15 v0_16 v0_17 v0_18 v0_19 v0_20 v0_22 v0_23 v0_24 v0_25 v0_26 v0_27 v0_28 v0_29 v0_30 v0_31 v0_32 v0_33 v0_34 v0_35 v0_36 v0_37 : Value) (p1 p2 thrown0 : Int32) (state1 : Nat → Int32) (r o_thrown0 : Int32) (sz : Nat) (hf : f_X10_lookTrip F p1 p2 thrown0 state1 = some (r, o_thrown0)) : CI l m_X10_lookTrip (rml 2 0 0) g (w_X10_lookTrip g h0 h1 v0_1 v0_2 v0_3 v0_4 v0_5 v0_6 v0_7 v0_8 v0_9 v0_10 v0_11 v0_12 v0_13 v0_14 v0_15 v0_16 v0_17 v0_18 v0_19 v0_20 v0_22 v0_23 v0_24 v0_25 v0_26 v0_27 v0_28 v0_29 v0_30 v0_31 v0_32 v0_33 v0_34 v0_35 v0_36 v0_37 thrown0 state1) (fun _ => w_X10_lookTrip g h0 h1 v0_1 v0_2 v0_3 v0_4 v0_5 v0_6 v0_7 v0_8 v0_9 v0_10 v0_11 v0_12 v0_13 v0_14 v0_15 v0_16 v0_17 v0_18 v0_19 v0_20 v0_22 v0_23 v0_24 v0_25 v0_26 v0_27 v0_28 v0_29 v0_30 v0_31 v0_32 v0_33 v0_34 v0_35 v0_36 v0_37 o_thrown0 state1) sz [.ref h0, .int p1, .int p2] r := by
  refine en_i (by decide) (Nat.le_of_ble_eq_true rfl) (fun p e s m args below meth c A ls C w hl => ?_)
  have C : Cx p s m args meth c RX10 m_X10_lookTrip g A := C
  have hx := C.1
  have hb : c.code = cX10_lookTrip := C.2.1
  have hl : lv_has ls 3 [(0, .ref h0), (1, .int p1), (2, .int p2)] := hl
  obtain ⟨Q, hQ⟩ : ∃ Q, Q = QI below args s g A (fun _ => w_X10_lookTrip g h0 h1 v0_1 v0_2 v0_3 v0_4 v0_5 v0_6 v0_7 v0_8 v0_9 v0_10 v0_11 v0_12 v0_13 v0_14 v0_15 v0_16 v0_17 v0_18 v0_19 v0_20 v0_22 v0_23 v0_24 v0_25 v0_26 v0_27 v0_28 v0_29 v0_30 v0_31 v0_32 v0_33 v0_34 v0_35 v0_36 v0_37 o_thrown0 state1) r 0 0 := ⟨_, rfl⟩
  suffices hW : W p l e (rml 2 0 0) s m args below meth c s.heap [] 0 0 Q (F0 m 0 ls []) from (by rw [hQ] at hW; exact hW)
  unfold f_X10_lookTrip at hf
  have b27 : ∀ (s0 thrown0 : Int32) (H : Heap) (locs : List Loc) (ls : Array Slot), f_X10_lookTrip_b27 F state1 s0 thrown0 = some (r, o_thrown0) → Wd g A (w_X10_lookTrip g h0 h1 v0_1 v0_2 v0_3 v0_4 v0_5 v0_6 v0_7 v0_8 v0_9 v0_10 v0_11 v0_12 v0_13 v0_14 v0_15 v0_16 v0_17 v0_18 v0_19 v0_20 v0_22 v0_23 v0_24 v0_25 v0_26 v0_27 v0_28 v0_29 v0_30 v0_31 v0_32 v0_33 v0_34 v0_35 v0_36 v0_37 thrown0 state1) s.heap H locs → lv_has ls 3 [] → W p l e (rml 2 0 0) s m args below meth c H locs 0 0 Q (F0 m 27 ls [.int s0]) := by
    intro s0 thrown0 H locs ls hf w hl
    unfold f_X10_lookTrip_b27 at hf
    obtain ⟨e1, e2⟩ := tp2 hf
    rw [hQ]
    exact rt_i C w rfl (fun _ => 0) (by rw [← e2]) e1 dX10_lookTrip_27
  refine lv_aload_n hx hb dX10_lookTrip_0 rfl (lv_at hl 0 rfl) ?_
  refine lv_iconst (v := 0) hx hb dX10_lookTrip_1 (by decide) ?_
  refine p_X10_84 C w 0 rfl (Nat.le_of_ble_eq_true rfl) (ws2 := w_X10_lookTrip g h0 h1 v0_1 v0_2 v0_3 v0_4 v0_5 v0_6 v0_7 v0_8 v0_9 v0_10 v0_11 v0_12 v0_13 v0_14 v0_15 v0_16 v0_17 v0_18 v0_19 v0_20 v0_22 v0_23 v0_24 v0_25 v0_26 v0_27 v0_28 v0_29 v0_30 v0_31 v0_32 v0_33 v0_34 v0_35 v0_36 v0_37 0 state1) rfl dX10_lookTrip_2 (fun H locs w => ?_)
  refine lv_aload_n hx hb dX10_lookTrip_5 rfl (lv_at hl 0 rfl) ?_
  refine lv_iload_n hx hb dX10_lookTrip_6 rfl (lv_at hl 1 rfl) ?_
  obtain ⟨r1, hc2, hf⟩ := bd1_some hf
  refine ca_iV C w (wn := fun _ => w_X10_lookTrip g h0 h1 v0_1 v0_2 v0_3 v0_4 v0_5 v0_6 v0_7 v0_8 v0_9 v0_10 v0_11 v0_12 v0_13 v0_14 v0_15 v0_16 v0_17 v0_18 v0_19 v0_20 v0_22 v0_23 v0_24 v0_25 v0_26 v0_27 v0_28 v0_29 v0_30 v0_31 v0_32 v0_33 v0_34 v0_35 v0_36 v0_37 0 state1) (pm_k [true, true] rfl rfl (fun _ => Nat.le_of_ble_eq_true rfl) (fun _ => rfl)) (c_X10_isTrip l g F h0 h1 (.int 0) v0_1 v0_2 v0_3 v0_4 v0_5 v0_6 v0_7 v0_8 v0_9 v0_10 v0_11 v0_12 v0_13 v0_14 v0_15 v0_16 v0_17 v0_18 v0_19 v0_20 v0_22 v0_23 v0_24 v0_25 v0_26 v0_27 v0_28 v0_29 v0_30 v0_31 v0_32 v0_33 v0_34 v0_35 v0_36 v0_37 p1 state1 r1 _ hc2) k_X10_316 (rm_le (by decide) (by decide)) 0 10 rfl rfl rfl rfl hl.1 rfl (Nat.le_of_ble_eq_true rfl) dX10_lookTrip_7 ⟨Nat.le_of_ble_eq_true rfl, Nat.le_of_ble_eq_true rfl⟩ (cells2 := 0) (slots2 := 0) ⟨rfl, rfl⟩ (fun _ H locs w => ?_)
  refine lv_if_eq (tgt := 22) hx hb dX10_lookTrip_10 (by decide) (fun c3 => ?_) (fun c3 => ?_)
  · replace hf := it_t c3 hf
    refine lv_aload_n hx hb dX10_lookTrip_22 rfl (lv_at hl 0 rfl) ?_
    refine lv_iconst (v := 1) hx hb dX10_lookTrip_23 (by decide) ?_
    obtain ⟨r4, o5, hc6, hf⟩ := bd2_some hf
    refine ca_iV C w (wn := fun _ => w_X10_lookTrip g h0 h1 v0_1 v0_2 v0_3 v0_4 v0_5 v0_6 v0_7 v0_8 v0_9 v0_10 v0_11 v0_12 v0_13 v0_14 v0_15 v0_16 v0_17 v0_18 v0_19 v0_20 v0_22 v0_23 v0_24 v0_25 v0_26 v0_27 v0_28 v0_29 v0_30 v0_31 v0_32 v0_33 v0_34 v0_35 v0_36 v0_37 o5 state1) (pm_k [true, false] rfl rfl (fun _ => Nat.le_of_ble_eq_true rfl) (fun _ => rfl)) (c_X10_fail l g F h0 v0_1 v0_2 v0_3 v0_4 v0_5 v0_6 v0_7 v0_8 v0_9 v0_10 v0_11 v0_12 v0_13 v0_14 v0_15 v0_16 v0_17 v0_18 v0_19 v0_20 (.ref h1) v0_22 v0_23 v0_24 v0_25 v0_26 v0_27 v0_28 v0_29 v0_30 v0_31 v0_32 v0_33 v0_34 v0_35 v0_36 v0_37 1 0 r4 o5 _ hc6) k_X10_202 (rm_le (by decide) (by decide)) 0 10 rfl rfl rfl rfl hl.1 rfl (Nat.le_of_ble_eq_true rfl) dX10_lookTrip_24 ⟨Nat.le_of_ble_eq_true rfl, Nat.le_of_ble_eq_true rfl⟩ (cells2 := 0) (slots2 := 0) ⟨rfl, rfl⟩ (fun _ H locs w => ?_)
    exact b27 r4 o5 _ _ _ hf w (lv_sub hl [] rfl)
  · replace hf := it_f c3 hf
    refine lv_aload_n hx hb dX10_lookTrip_13 rfl (lv_at hl 0 rfl) ?_
    refine lv_iload_n hx hb dX10_lookTrip_14 rfl (lv_at hl 1 rfl) ?_
    refine lv_iload_n hx hb dX10_lookTrip_15 rfl (lv_at hl 2 rfl) ?_
    obtain ⟨r7, hc8, hf⟩ := bd1_some hf
    refine ca_iV C w (wn := fun _ => w_X10_lookTrip g h0 h1 v0_1 v0_2 v0_3 v0_4 v0_5 v0_6 v0_7 v0_8 v0_9 v0_10 v0_11 v0_12 v0_13 v0_14 v0_15 v0_16 v0_17 v0_18 v0_19 v0_20 v0_22 v0_23 v0_24 v0_25 v0_26 v0_27 v0_28 v0_29 v0_30 v0_31 v0_32 v0_33 v0_34 v0_35 v0_36 v0_37 0 state1) (pm_k [true, true] rfl rfl (fun _ => Nat.le_of_ble_eq_true rfl) (fun _ => rfl)) (c_X10_ofTrip l g F h0 h1 (.int 0) v0_1 v0_2 v0_3 v0_4 v0_5 v0_6 v0_7 v0_8 v0_9 v0_10 v0_11 v0_12 v0_13 v0_14 v0_15 v0_16 v0_17 v0_18 v0_19 v0_20 v0_22 v0_23 v0_24 v0_25 v0_26 v0_27 v0_28 v0_29 v0_30 v0_31 v0_32 v0_33 v0_34 v0_35 v0_36 v0_37 p1 p2 state1 r7 _ hc8) k_X10_319 (rm_le (by decide) (by decide)) 0 10 rfl rfl rfl rfl hl.1 rfl (Nat.le_of_ble_eq_true rfl) dX10_lookTrip_16 ⟨Nat.le_of_ble_eq_true rfl, Nat.le_of_ble_eq_true rfl⟩ (cells2 := 0) (slots2 := 0) ⟨rfl, rfl⟩ (fun _ H locs w => ?_)
    refine lv_goto (tgt := 27) hx hb dX10_lookTrip_19 (by decide) ?_
    exact b27 r7 0 _ _ _ hf w (lv_sub hl [] rfl)

theorem dX10_tripAmount_0 : decode cX10_tripAmount 0 = .ok (.aload_n 0, 1) := by decide +kernel
theorem dX10_tripAmount_1 : decode cX10_tripAmount 1 = .ok (.iload_n 1, 1) := by decide +kernel
theorem dX10_tripAmount_2 : decode cX10_tripAmount 2 = .ok (.iconst 1, 1) := by decide +kernel
theorem dX10_tripAmount_3 : decode cX10_tripAmount 3 = .ok (.invokevirtual 322, 3) := by decide +kernel
theorem dX10_tripAmount_6 : decode cX10_tripAmount 6 = .ok (.ireturn, 1) := by decide +kernel
abbrev m_X10_tripAmount : MD := (yX10_tripAmount, cX10_tripAmount, 2, (some .int))
theorem q_1627 : Cond.code yX10_lookTrip cX10_lookTrip 3 (some .int) ∈ TS := ts_t 1627 (by decide +kernel) (by decide +kernel)
theorem q_1624 : Cond.methodLink RX10 322 yX10_lookTrip ∈ TS := ts_t 1624 (by decide +kernel) (by decide +kernel)
theorem q_1626 : Cond.instanceMethod yX10_lookTrip ∈ TS := ts_t 1626 (by decide +kernel) (by decide +kernel)
theorem qs_123 : Cond.selects yX10_lookTrip.cls yX10_lookTrip yX10_lookTrip ∈ TS := ts_s 123 (by decide +kernel) (by decide +kernel)
theorem k_X10_322 : LkV RX10 322 m_X10_lookTrip 2 := ⟨q_1624, q_1626, qs_123, ⟨q_11, q_1627, by decide, by decide, by decide +kernel⟩⟩
abbrev w_X10_tripAmount (g : GT) (h0 h1 : Nat) (v0_1 v0_2 v0_3 v0_4 v0_5 v0_6 v0_7 v0_8 v0_9 v0_10 v0_11 v0_12 v0_13 v0_14 v0_15 v0_16 v0_17 v0_18 v0_19 v0_20 v0_22 v0_23 v0_24 v0_25 v0_26 v0_27 v0_28 v0_29 v0_30 v0_31 v0_32 v0_33 v0_34 v0_35 v0_36 v0_37 : Value) (thrown0 : Int32) (state1 : Nat → Int32) : va_W := [(h0, .inr (10, [.int thrown0, v0_1, v0_2, v0_3, v0_4, v0_5, v0_6, v0_7, v0_8, v0_9, v0_10, v0_11, v0_12, v0_13, v0_14, v0_15, v0_16, v0_17, v0_18, v0_19, v0_20, .ref h1, v0_22, v0_23, v0_24, v0_25, v0_26, v0_27, v0_28, v0_29, v0_30, v0_31, v0_32, v0_33, v0_34, v0_35, v0_36, v0_37])), (h1, aI g 2524 state1)]
def f_X10_tripAmount (F : Nat) (p1 thrown0 : Int32) (state1 : Nat → Int32) : Option (Int32 × Int32) :=
  bd2 (f_X10_lookTrip F p1 1 thrown0 state1) fun r1 o2 =>
  some (r1, o2)
set_option maxHeartbeats 4000000 in
set_option maxRecDepth 100000 in
theorem c_X10_tripAmount (l : Launch) (g : GT) (F : Nat) (h0 h1 : Nat) (v0_1 v0_2 v0_3 v0_4 v0_5 v0_6 v0_7 v0_8 v0_9 v0_10 v0_11 v0_12 v0_13 v0_14 v0_15 v0_16 v0_17 v0_18 v0_19 v0_20 v0_22 v0_23 v0_24 v0_25 v0_26 v0_27 v0_28 v0_29 v0_30 v0_31 v0_32 v0_33 v0_34 v0_35 v0_36 v0_37 : Value) (p1 thrown0 : Int32) (state1 : Nat → Int32) (r o_thrown0 : Int32) (sz : Nat) (hf : f_X10_tripAmount F p1 thrown0 state1 = some (r, o_thrown0)) : CI l m_X10_tripAmount (rml 3 0 0) g (w_X10_tripAmount g h0 h1 v0_1 v0_2 v0_3 v0_4 v0_5 v0_6 v0_7 v0_8 v0_9 v0_10 v0_11 v0_12 v0_13 v0_14 v0_15 v0_16 v0_17 v0_18 v0_19 v0_20 v0_22 v0_23 v0_24 v0_25 v0_26 v0_27 v0_28 v0_29 v0_30 v0_31 v0_32 v0_33 v0_34 v0_35 v0_36 v0_37 thrown0 state1) (fun _ => w_X10_tripAmount g h0 h1 v0_1 v0_2 v0_3 v0_4 v0_5 v0_6 v0_7 v0_8 v0_9 v0_10 v0_11 v0_12 v0_13 v0_14 v0_15 v0_16 v0_17 v0_18 v0_19 v0_20 v0_22 v0_23 v0_24 v0_25 v0_26 v0_27 v0_28 v0_29 v0_30 v0_31 v0_32 v0_33 v0_34 v0_35 v0_36 v0_37 o_thrown0 state1) sz [.ref h0, .int p1] r := by
  refine en_i (by decide) (Nat.le_of_ble_eq_true rfl) (fun p e s m args below meth c A ls C w hl => ?_)
  have C : Cx p s m args meth c RX10 m_X10_tripAmount g A := C
  have hx := C.1
  have hb : c.code = cX10_tripAmount := C.2.1
  have hl : lv_has ls 2 [(0, .ref h0), (1, .int p1)] := hl
  obtain ⟨Q, hQ⟩ : ∃ Q, Q = QI below args s g A (fun _ => w_X10_tripAmount g h0 h1 v0_1 v0_2 v0_3 v0_4 v0_5 v0_6 v0_7 v0_8 v0_9 v0_10 v0_11 v0_12 v0_13 v0_14 v0_15 v0_16 v0_17 v0_18 v0_19 v0_20 v0_22 v0_23 v0_24 v0_25 v0_26 v0_27 v0_28 v0_29 v0_30 v0_31 v0_32 v0_33 v0_34 v0_35 v0_36 v0_37 o_thrown0 state1) r 0 0 := ⟨_, rfl⟩
  suffices hW : W p l e (rml 3 0 0) s m args below meth c s.heap [] 0 0 Q (F0 m 0 ls []) from (by rw [hQ] at hW; exact hW)
  unfold f_X10_tripAmount at hf
  refine lv_aload_n hx hb dX10_tripAmount_0 rfl (lv_at hl 0 rfl) ?_
  refine lv_iload_n hx hb dX10_tripAmount_1 rfl (lv_at hl 1 rfl) ?_
  refine lv_iconst (v := 1) hx hb dX10_tripAmount_2 (by decide) ?_
  obtain ⟨r1, o2, hc3, hf⟩ := bd2_some hf
  refine ca_iV C w (wn := fun _ => w_X10_tripAmount g h0 h1 v0_1 v0_2 v0_3 v0_4 v0_5 v0_6 v0_7 v0_8 v0_9 v0_10 v0_11 v0_12 v0_13 v0_14 v0_15 v0_16 v0_17 v0_18 v0_19 v0_20 v0_22 v0_23 v0_24 v0_25 v0_26 v0_27 v0_28 v0_29 v0_30 v0_31 v0_32 v0_33 v0_34 v0_35 v0_36 v0_37 o2 state1) (pm_k [true, true] rfl rfl (fun _ => Nat.le_of_ble_eq_true rfl) (fun _ => rfl)) (c_X10_lookTrip l g F h0 h1 v0_1 v0_2 v0_3 v0_4 v0_5 v0_6 v0_7 v0_8 v0_9 v0_10 v0_11 v0_12 v0_13 v0_14 v0_15 v0_16 v0_17 v0_18 v0_19 v0_20 v0_22 v0_23 v0_24 v0_25 v0_26 v0_27 v0_28 v0_29 v0_30 v0_31 v0_32 v0_33 v0_34 v0_35 v0_36 v0_37 p1 1 thrown0 state1 r1 o2 _ hc3) k_X10_322 (rm_le (by decide) (by decide)) 0 10 rfl rfl rfl rfl hl.1 rfl (Nat.le_of_ble_eq_true rfl) dX10_tripAmount_3 ⟨Nat.le_of_ble_eq_true rfl, Nat.le_of_ble_eq_true rfl⟩ (cells2 := 0) (slots2 := 0) ⟨rfl, rfl⟩ (fun _ H locs w => ?_)
  obtain ⟨e1, e2⟩ := tp2 hf
  rw [hQ]
  exact rt_i C w rfl (fun _ => 0) (by rw [← e2]) e1 dX10_tripAmount_6

theorem dX10_tripClass_0 : decode cX10_tripClass 0 = .ok (.aload_n 0, 1) := by decide +kernel
theorem dX10_tripClass_1 : decode cX10_tripClass 1 = .ok (.iload_n 1, 1) := by decide +kernel
theorem dX10_tripClass_2 : decode cX10_tripClass 2 = .ok (.iconst 2, 1) := by decide +kernel
theorem dX10_tripClass_3 : decode cX10_tripClass 3 = .ok (.invokevirtual 322, 3) := by decide +kernel
theorem dX10_tripClass_6 : decode cX10_tripClass 6 = .ok (.ireturn, 1) := by decide +kernel
abbrev m_X10_tripClass : MD := (yX10_tripClass, cX10_tripClass, 2, (some .int))

abbrev w_X10_tripClass (g : GT) (h0 h1 : Nat) (v0_1 v0_2 v0_3 v0_4 v0_5 v0_6 v0_7 v0_8 v0_9 v0_10 v0_11 v0_12 v0_13 v0_14 v0_15 v0_16 v0_17 v0_18 v0_19 v0_20 v0_22 v0_23 v0_24 v0_25 v0_26 v0_27 v0_28 v0_29 v0_30 v0_31 v0_32 v0_33 v0_34 v0_35 v0_36 v0_37 : Value) (thrown0 : Int32) (state1 : Nat → Int32) : va_W := [(h0, .inr (10, [.int thrown0, v0_1, v0_2, v0_3, v0_4, v0_5, v0_6, v0_7, v0_8, v0_9, v0_10, v0_11, v0_12, v0_13, v0_14, v0_15, v0_16, v0_17, v0_18, v0_19, v0_20, .ref h1, v0_22, v0_23, v0_24, v0_25, v0_26, v0_27, v0_28, v0_29, v0_30, v0_31, v0_32, v0_33, v0_34, v0_35, v0_36, v0_37])), (h1, aI g 2524 state1)]
def f_X10_tripClass (F : Nat) (p1 thrown0 : Int32) (state1 : Nat → Int32) : Option (Int32 × Int32) :=
  bd2 (f_X10_lookTrip F p1 2 thrown0 state1) fun r1 o2 =>
  some (r1, o2)
set_option maxHeartbeats 4000000 in
set_option maxRecDepth 100000 in
theorem c_X10_tripClass (l : Launch) (g : GT) (F : Nat) (h0 h1 : Nat) (v0_1 v0_2 v0_3 v0_4 v0_5 v0_6 v0_7 v0_8 v0_9 v0_10 v0_11 v0_12 v0_13 v0_14 v0_15 v0_16 v0_17 v0_18 v0_19 v0_20 v0_22 v0_23 v0_24 v0_25 v0_26 v0_27 v0_28 v0_29 v0_30 v0_31 v0_32 v0_33 v0_34 v0_35 v0_36 v0_37 : Value) (p1 thrown0 : Int32) (state1 : Nat → Int32) (r o_thrown0 : Int32) (sz : Nat) (hf : f_X10_tripClass F p1 thrown0 state1 = some (r, o_thrown0)) : CI l m_X10_tripClass (rml 3 0 0) g (w_X10_tripClass g h0 h1 v0_1 v0_2 v0_3 v0_4 v0_5 v0_6 v0_7 v0_8 v0_9 v0_10 v0_11 v0_12 v0_13 v0_14 v0_15 v0_16 v0_17 v0_18 v0_19 v0_20 v0_22 v0_23 v0_24 v0_25 v0_26 v0_27 v0_28 v0_29 v0_30 v0_31 v0_32 v0_33 v0_34 v0_35 v0_36 v0_37 thrown0 state1) (fun _ => w_X10_tripClass g h0 h1 v0_1 v0_2 v0_3 v0_4 v0_5 v0_6 v0_7 v0_8 v0_9 v0_10 v0_11 v0_12 v0_13 v0_14 v0_15 v0_16 v0_17 v0_18 v0_19 v0_20 v0_22 v0_23 v0_24 v0_25 v0_26 v0_27 v0_28 v0_29 v0_30 v0_31 v0_32 v0_33 v0_34 v0_35 v0_36 v0_37 o_thrown0 state1) sz [.ref h0, .int p1] r := by
  refine en_i (by decide) (Nat.le_of_ble_eq_true rfl) (fun p e s m args below meth c A ls C w hl => ?_)
  have C : Cx p s m args meth c RX10 m_X10_tripClass g A := C
  have hx := C.1
  have hb : c.code = cX10_tripClass := C.2.1
  have hl : lv_has ls 2 [(0, .ref h0), (1, .int p1)] := hl
  obtain ⟨Q, hQ⟩ : ∃ Q, Q = QI below args s g A (fun _ => w_X10_tripClass g h0 h1 v0_1 v0_2 v0_3 v0_4 v0_5 v0_6 v0_7 v0_8 v0_9 v0_10 v0_11 v0_12 v0_13 v0_14 v0_15 v0_16 v0_17 v0_18 v0_19 v0_20 v0_22 v0_23 v0_24 v0_25 v0_26 v0_27 v0_28 v0_29 v0_30 v0_31 v0_32 v0_33 v0_34 v0_35 v0_36 v0_37 o_thrown0 state1) r 0 0 := ⟨_, rfl⟩
  suffices hW : W p l e (rml 3 0 0) s m args below meth c s.heap [] 0 0 Q (F0 m 0 ls []) from (by rw [hQ] at hW; exact hW)
  unfold f_X10_tripClass at hf
  refine lv_aload_n hx hb dX10_tripClass_0 rfl (lv_at hl 0 rfl) ?_
  refine lv_iload_n hx hb dX10_tripClass_1 rfl (lv_at hl 1 rfl) ?_
  refine lv_iconst (v := 2) hx hb dX10_tripClass_2 (by decide) ?_
  obtain ⟨r1, o2, hc3, hf⟩ := bd2_some hf
  refine ca_iV C w (wn := fun _ => w_X10_tripClass g h0 h1 v0_1 v0_2 v0_3 v0_4 v0_5 v0_6 v0_7 v0_8 v0_9 v0_10 v0_11 v0_12 v0_13 v0_14 v0_15 v0_16 v0_17 v0_18 v0_19 v0_20 v0_22 v0_23 v0_24 v0_25 v0_26 v0_27 v0_28 v0_29 v0_30 v0_31 v0_32 v0_33 v0_34 v0_35 v0_36 v0_37 o2 state1) (pm_k [true, true] rfl rfl (fun _ => Nat.le_of_ble_eq_true rfl) (fun _ => rfl)) (c_X10_lookTrip l g F h0 h1 v0_1 v0_2 v0_3 v0_4 v0_5 v0_6 v0_7 v0_8 v0_9 v0_10 v0_11 v0_12 v0_13 v0_14 v0_15 v0_16 v0_17 v0_18 v0_19 v0_20 v0_22 v0_23 v0_24 v0_25 v0_26 v0_27 v0_28 v0_29 v0_30 v0_31 v0_32 v0_33 v0_34 v0_35 v0_36 v0_37 p1 2 thrown0 state1 r1 o2 _ hc3) k_X10_322 (rm_le (by decide) (by decide)) 0 10 rfl rfl rfl rfl hl.1 rfl (Nat.le_of_ble_eq_true rfl) dX10_tripClass_3 ⟨Nat.le_of_ble_eq_true rfl, Nat.le_of_ble_eq_true rfl⟩ (cells2 := 0) (slots2 := 0) ⟨rfl, rfl⟩ (fun _ H locs w => ?_)
  obtain ⟨e1, e2⟩ := tp2 hf
  rw [hQ]
  exact rt_i C w rfl (fun _ => 0) (by rw [← e2]) e1 dX10_tripClass_6

theorem dX10_tripPassages_0 : decode cX10_tripPassages 0 = .ok (.aload_n 0, 1) := by decide +kernel
theorem dX10_tripPassages_1 : decode cX10_tripPassages 1 = .ok (.iload_n 1, 1) := by decide +kernel
theorem dX10_tripPassages_2 : decode cX10_tripPassages 2 = .ok (.iconst 3, 1) := by decide +kernel
theorem dX10_tripPassages_3 : decode cX10_tripPassages 3 = .ok (.invokevirtual 322, 3) := by decide +kernel
theorem dX10_tripPassages_6 : decode cX10_tripPassages 6 = .ok (.ireturn, 1) := by decide +kernel
abbrev m_X10_tripPassages : MD := (yX10_tripPassages, cX10_tripPassages, 2, (some .int))

abbrev w_X10_tripPassages (g : GT) (h0 h1 : Nat) (v0_1 v0_2 v0_3 v0_4 v0_5 v0_6 v0_7 v0_8 v0_9 v0_10 v0_11 v0_12 v0_13 v0_14 v0_15 v0_16 v0_17 v0_18 v0_19 v0_20 v0_22 v0_23 v0_24 v0_25 v0_26 v0_27 v0_28 v0_29 v0_30 v0_31 v0_32 v0_33 v0_34 v0_35 v0_36 v0_37 : Value) (thrown0 : Int32) (state1 : Nat → Int32) : va_W := [(h0, .inr (10, [.int thrown0, v0_1, v0_2, v0_3, v0_4, v0_5, v0_6, v0_7, v0_8, v0_9, v0_10, v0_11, v0_12, v0_13, v0_14, v0_15, v0_16, v0_17, v0_18, v0_19, v0_20, .ref h1, v0_22, v0_23, v0_24, v0_25, v0_26, v0_27, v0_28, v0_29, v0_30, v0_31, v0_32, v0_33, v0_34, v0_35, v0_36, v0_37])), (h1, aI g 2524 state1)]
def f_X10_tripPassages (F : Nat) (p1 thrown0 : Int32) (state1 : Nat → Int32) : Option (Int32 × Int32) :=
  bd2 (f_X10_lookTrip F p1 3 thrown0 state1) fun r1 o2 =>
  some (r1, o2)
set_option maxHeartbeats 4000000 in
set_option maxRecDepth 100000 in
theorem c_X10_tripPassages (l : Launch) (g : GT) (F : Nat) (h0 h1 : Nat) (v0_1 v0_2 v0_3 v0_4 v0_5 v0_6 v0_7 v0_8 v0_9 v0_10 v0_11 v0_12 v0_13 v0_14 v0_15 v0_16 v0_17 v0_18 v0_19 v0_20 v0_22 v0_23 v0_24 v0_25 v0_26 v0_27 v0_28 v0_29 v0_30 v0_31 v0_32 v0_33 v0_34 v0_35 v0_36 v0_37 : Value) (p1 thrown0 : Int32) (state1 : Nat → Int32) (r o_thrown0 : Int32) (sz : Nat) (hf : f_X10_tripPassages F p1 thrown0 state1 = some (r, o_thrown0)) : CI l m_X10_tripPassages (rml 3 0 0) g (w_X10_tripPassages g h0 h1 v0_1 v0_2 v0_3 v0_4 v0_5 v0_6 v0_7 v0_8 v0_9 v0_10 v0_11 v0_12 v0_13 v0_14 v0_15 v0_16 v0_17 v0_18 v0_19 v0_20 v0_22 v0_23 v0_24 v0_25 v0_26 v0_27 v0_28 v0_29 v0_30 v0_31 v0_32 v0_33 v0_34 v0_35 v0_36 v0_37 thrown0 state1) (fun _ => w_X10_tripPassages g h0 h1 v0_1 v0_2 v0_3 v0_4 v0_5 v0_6 v0_7 v0_8 v0_9 v0_10 v0_11 v0_12 v0_13 v0_14 v0_15 v0_16 v0_17 v0_18 v0_19 v0_20 v0_22 v0_23 v0_24 v0_25 v0_26 v0_27 v0_28 v0_29 v0_30 v0_31 v0_32 v0_33 v0_34 v0_35 v0_36 v0_37 o_thrown0 state1) sz [.ref h0, .int p1] r := by
  refine en_i (by decide) (Nat.le_of_ble_eq_true rfl) (fun p e s m args below meth c A ls C w hl => ?_)
  have C : Cx p s m args meth c RX10 m_X10_tripPassages g A := C
  have hx := C.1
  have hb : c.code = cX10_tripPassages := C.2.1
  have hl : lv_has ls 2 [(0, .ref h0), (1, .int p1)] := hl
  obtain ⟨Q, hQ⟩ : ∃ Q, Q = QI below args s g A (fun _ => w_X10_tripPassages g h0 h1 v0_1 v0_2 v0_3 v0_4 v0_5 v0_6 v0_7 v0_8 v0_9 v0_10 v0_11 v0_12 v0_13 v0_14 v0_15 v0_16 v0_17 v0_18 v0_19 v0_20 v0_22 v0_23 v0_24 v0_25 v0_26 v0_27 v0_28 v0_29 v0_30 v0_31 v0_32 v0_33 v0_34 v0_35 v0_36 v0_37 o_thrown0 state1) r 0 0 := ⟨_, rfl⟩
  suffices hW : W p l e (rml 3 0 0) s m args below meth c s.heap [] 0 0 Q (F0 m 0 ls []) from (by rw [hQ] at hW; exact hW)
  unfold f_X10_tripPassages at hf
  refine lv_aload_n hx hb dX10_tripPassages_0 rfl (lv_at hl 0 rfl) ?_
  refine lv_iload_n hx hb dX10_tripPassages_1 rfl (lv_at hl 1 rfl) ?_
  refine lv_iconst (v := 3) hx hb dX10_tripPassages_2 (by decide) ?_
  obtain ⟨r1, o2, hc3, hf⟩ := bd2_some hf
  refine ca_iV C w (wn := fun _ => w_X10_tripPassages g h0 h1 v0_1 v0_2 v0_3 v0_4 v0_5 v0_6 v0_7 v0_8 v0_9 v0_10 v0_11 v0_12 v0_13 v0_14 v0_15 v0_16 v0_17 v0_18 v0_19 v0_20 v0_22 v0_23 v0_24 v0_25 v0_26 v0_27 v0_28 v0_29 v0_30 v0_31 v0_32 v0_33 v0_34 v0_35 v0_36 v0_37 o2 state1) (pm_k [true, true] rfl rfl (fun _ => Nat.le_of_ble_eq_true rfl) (fun _ => rfl)) (c_X10_lookTrip l g F h0 h1 v0_1 v0_2 v0_3 v0_4 v0_5 v0_6 v0_7 v0_8 v0_9 v0_10 v0_11 v0_12 v0_13 v0_14 v0_15 v0_16 v0_17 v0_18 v0_19 v0_20 v0_22 v0_23 v0_24 v0_25 v0_26 v0_27 v0_28 v0_29 v0_30 v0_31 v0_32 v0_33 v0_34 v0_35 v0_36 v0_37 p1 3 thrown0 state1 r1 o2 _ hc3) k_X10_322 (rm_le (by decide) (by decide)) 0 10 rfl rfl rfl rfl hl.1 rfl (Nat.le_of_ble_eq_true rfl) dX10_tripPassages_3 ⟨Nat.le_of_ble_eq_true rfl, Nat.le_of_ble_eq_true rfl⟩ (cells2 := 0) (slots2 := 0) ⟨rfl, rfl⟩ (fun _ H locs w => ?_)
  obtain ⟨e1, e2⟩ := tp2 hf
  rw [hQ]
  exact rt_i C w rfl (fun _ => 0) (by rw [← e2]) e1 dX10_tripPassages_6

theorem dX10_tripState_0 : decode cX10_tripState 0 = .ok (.aload_n 0, 1) := by decide +kernel
theorem dX10_tripState_1 : decode cX10_tripState 1 = .ok (.iload_n 1, 1) := by decide +kernel
theorem dX10_tripState_2 : decode cX10_tripState 2 = .ok (.iconst 4, 1) := by decide +kernel
theorem dX10_tripState_3 : decode cX10_tripState 3 = .ok (.invokevirtual 322, 3) := by decide +kernel
theorem dX10_tripState_6 : decode cX10_tripState 6 = .ok (.ireturn, 1) := by decide +kernel
abbrev m_X10_tripState : MD := (yX10_tripState, cX10_tripState, 2, (some .int))

abbrev w_X10_tripState (g : GT) (h0 h1 : Nat) (v0_1 v0_2 v0_3 v0_4 v0_5 v0_6 v0_7 v0_8 v0_9 v0_10 v0_11 v0_12 v0_13 v0_14 v0_15 v0_16 v0_17 v0_18 v0_19 v0_20 v0_22 v0_23 v0_24 v0_25 v0_26 v0_27 v0_28 v0_29 v0_30 v0_31 v0_32 v0_33 v0_34 v0_35 v0_36 v0_37 : Value) (thrown0 : Int32) (state1 : Nat → Int32) : va_W := [(h0, .inr (10, [.int thrown0, v0_1, v0_2, v0_3, v0_4, v0_5, v0_6, v0_7, v0_8, v0_9, v0_10, v0_11, v0_12, v0_13, v0_14, v0_15, v0_16, v0_17, v0_18, v0_19, v0_20, .ref h1, v0_22, v0_23, v0_24, v0_25, v0_26, v0_27, v0_28, v0_29, v0_30, v0_31, v0_32, v0_33, v0_34, v0_35, v0_36, v0_37])), (h1, aI g 2524 state1)]
def f_X10_tripState (F : Nat) (p1 thrown0 : Int32) (state1 : Nat → Int32) : Option (Int32 × Int32) :=
  bd2 (f_X10_lookTrip F p1 4 thrown0 state1) fun r1 o2 =>
  some (r1, o2)
set_option maxHeartbeats 4000000 in
set_option maxRecDepth 100000 in
theorem c_X10_tripState (l : Launch) (g : GT) (F : Nat) (h0 h1 : Nat) (v0_1 v0_2 v0_3 v0_4 v0_5 v0_6 v0_7 v0_8 v0_9 v0_10 v0_11 v0_12 v0_13 v0_14 v0_15 v0_16 v0_17 v0_18 v0_19 v0_20 v0_22 v0_23 v0_24 v0_25 v0_26 v0_27 v0_28 v0_29 v0_30 v0_31 v0_32 v0_33 v0_34 v0_35 v0_36 v0_37 : Value) (p1 thrown0 : Int32) (state1 : Nat → Int32) (r o_thrown0 : Int32) (sz : Nat) (hf : f_X10_tripState F p1 thrown0 state1 = some (r, o_thrown0)) : CI l m_X10_tripState (rml 3 0 0) g (w_X10_tripState g h0 h1 v0_1 v0_2 v0_3 v0_4 v0_5 v0_6 v0_7 v0_8 v0_9 v0_10 v0_11 v0_12 v0_13 v0_14 v0_15 v0_16 v0_17 v0_18 v0_19 v0_20 v0_22 v0_23 v0_24 v0_25 v0_26 v0_27 v0_28 v0_29 v0_30 v0_31 v0_32 v0_33 v0_34 v0_35 v0_36 v0_37 thrown0 state1) (fun _ => w_X10_tripState g h0 h1 v0_1 v0_2 v0_3 v0_4 v0_5 v0_6 v0_7 v0_8 v0_9 v0_10 v0_11 v0_12 v0_13 v0_14 v0_15 v0_16 v0_17 v0_18 v0_19 v0_20 v0_22 v0_23 v0_24 v0_25 v0_26 v0_27 v0_28 v0_29 v0_30 v0_31 v0_32 v0_33 v0_34 v0_35 v0_36 v0_37 o_thrown0 state1) sz [.ref h0, .int p1] r := by
  refine en_i (by decide) (Nat.le_of_ble_eq_true rfl) (fun p e s m args below meth c A ls C w hl => ?_)
  have C : Cx p s m args meth c RX10 m_X10_tripState g A := C
  have hx := C.1
  have hb : c.code = cX10_tripState := C.2.1
  have hl : lv_has ls 2 [(0, .ref h0), (1, .int p1)] := hl
  obtain ⟨Q, hQ⟩ : ∃ Q, Q = QI below args s g A (fun _ => w_X10_tripState g h0 h1 v0_1 v0_2 v0_3 v0_4 v0_5 v0_6 v0_7 v0_8 v0_9 v0_10 v0_11 v0_12 v0_13 v0_14 v0_15 v0_16 v0_17 v0_18 v0_19 v0_20 v0_22 v0_23 v0_24 v0_25 v0_26 v0_27 v0_28 v0_29 v0_30 v0_31 v0_32 v0_33 v0_34 v0_35 v0_36 v0_37 o_thrown0 state1) r 0 0 := ⟨_, rfl⟩
  suffices hW : W p l e (rml 3 0 0) s m args below meth c s.heap [] 0 0 Q (F0 m 0 ls []) from (by rw [hQ] at hW; exact hW)
  unfold f_X10_tripState at hf
  refine lv_aload_n hx hb dX10_tripState_0 rfl (lv_at hl 0 rfl) ?_
  refine lv_iload_n hx hb dX10_tripState_1 rfl (lv_at hl 1 rfl) ?_
  refine lv_iconst (v := 4) hx hb dX10_tripState_2 (by decide) ?_
  obtain ⟨r1, o2, hc3, hf⟩ := bd2_some hf
  refine ca_iV C w (wn := fun _ => w_X10_tripState g h0 h1 v0_1 v0_2 v0_3 v0_4 v0_5 v0_6 v0_7 v0_8 v0_9 v0_10 v0_11 v0_12 v0_13 v0_14 v0_15 v0_16 v0_17 v0_18 v0_19 v0_20 v0_22 v0_23 v0_24 v0_25 v0_26 v0_27 v0_28 v0_29 v0_30 v0_31 v0_32 v0_33 v0_34 v0_35 v0_36 v0_37 o2 state1) (pm_k [true, true] rfl rfl (fun _ => Nat.le_of_ble_eq_true rfl) (fun _ => rfl)) (c_X10_lookTrip l g F h0 h1 v0_1 v0_2 v0_3 v0_4 v0_5 v0_6 v0_7 v0_8 v0_9 v0_10 v0_11 v0_12 v0_13 v0_14 v0_15 v0_16 v0_17 v0_18 v0_19 v0_20 v0_22 v0_23 v0_24 v0_25 v0_26 v0_27 v0_28 v0_29 v0_30 v0_31 v0_32 v0_33 v0_34 v0_35 v0_36 v0_37 p1 4 thrown0 state1 r1 o2 _ hc3) k_X10_322 (rm_le (by decide) (by decide)) 0 10 rfl rfl rfl rfl hl.1 rfl (Nat.le_of_ble_eq_true rfl) dX10_tripState_3 ⟨Nat.le_of_ble_eq_true rfl, Nat.le_of_ble_eq_true rfl⟩ (cells2 := 0) (slots2 := 0) ⟨rfl, rfl⟩ (fun _ H locs w => ?_)
  obtain ⟨e1, e2⟩ := tp2 hf
  rw [hQ]
  exact rt_i C w rfl (fun _ => 0) (by rw [← e2]) e1 dX10_tripState_6

theorem dX10_invoiceOf_0 : decode cX10_invoiceOf 0 = .ok (.aload_n 0, 1) := by decide +kernel
theorem dX10_invoiceOf_1 : decode cX10_invoiceOf 1 = .ok (.iload_n 1, 1) := by decide +kernel
theorem dX10_invoiceOf_2 : decode cX10_invoiceOf 2 = .ok (.iconst 0, 1) := by decide +kernel
theorem dX10_invoiceOf_3 : decode cX10_invoiceOf 3 = .ok (.invokevirtual 322, 3) := by decide +kernel
theorem dX10_invoiceOf_6 : decode cX10_invoiceOf 6 = .ok (.ireturn, 1) := by decide +kernel
abbrev m_X10_invoiceOf : MD := (yX10_invoiceOf, cX10_invoiceOf, 2, (some .int))

abbrev w_X10_invoiceOf (g : GT) (h0 h1 : Nat) (v0_1 v0_2 v0_3 v0_4 v0_5 v0_6 v0_7 v0_8 v0_9 v0_10 v0_11 v0_12 v0_13 v0_14 v0_15 v0_16 v0_17 v0_18 v0_19 v0_20 v0_22 v0_23 v0_24 v0_25 v0_26 v0_27 v0_28 v0_29 v0_30 v0_31 v0_32 v0_33 v0_34 v0_35 v0_36 v0_37 : Value) (thrown0 : Int32) (state1 : Nat → Int32) : va_W := [(h0, .inr (10, [.int thrown0, v0_1, v0_2, v0_3, v0_4, v0_5, v0_6, v0_7, v0_8, v0_9, v0_10, v0_11, v0_12, v0_13, v0_14, v0_15, v0_16, v0_17, v0_18, v0_19, v0_20, .ref h1, v0_22, v0_23, v0_24, v0_25, v0_26, v0_27, v0_28, v0_29, v0_30, v0_31, v0_32, v0_33, v0_34, v0_35, v0_36, v0_37])), (h1, aI g 2524 state1)]
def f_X10_invoiceOf (F : Nat) (p1 thrown0 : Int32) (state1 : Nat → Int32) : Option (Int32 × Int32) :=
  bd2 (f_X10_lookTrip F p1 0 thrown0 state1) fun r1 o2 =>
  some (r1, o2)
set_option maxHeartbeats 4000000 in
set_option maxRecDepth 100000 in
theorem c_X10_invoiceOf (l : Launch) (g : GT) (F : Nat) (h0 h1 : Nat) (v0_1 v0_2 v0_3 v0_4 v0_5 v0_6 v0_7 v0_8 v0_9 v0_10 v0_11 v0_12 v0_13 v0_14 v0_15 v0_16 v0_17 v0_18 v0_19 v0_20 v0_22 v0_23 v0_24 v0_25 v0_26 v0_27 v0_28 v0_29 v0_30 v0_31 v0_32 v0_33 v0_34 v0_35 v0_36 v0_37 : Value) (p1 thrown0 : Int32) (state1 : Nat → Int32) (r o_thrown0 : Int32) (sz : Nat) (hf : f_X10_invoiceOf F p1 thrown0 state1 = some (r, o_thrown0)) : CI l m_X10_invoiceOf (rml 3 0 0) g (w_X10_invoiceOf g h0 h1 v0_1 v0_2 v0_3 v0_4 v0_5 v0_6 v0_7 v0_8 v0_9 v0_10 v0_11 v0_12 v0_13 v0_14 v0_15 v0_16 v0_17 v0_18 v0_19 v0_20 v0_22 v0_23 v0_24 v0_25 v0_26 v0_27 v0_28 v0_29 v0_30 v0_31 v0_32 v0_33 v0_34 v0_35 v0_36 v0_37 thrown0 state1) (fun _ => w_X10_invoiceOf g h0 h1 v0_1 v0_2 v0_3 v0_4 v0_5 v0_6 v0_7 v0_8 v0_9 v0_10 v0_11 v0_12 v0_13 v0_14 v0_15 v0_16 v0_17 v0_18 v0_19 v0_20 v0_22 v0_23 v0_24 v0_25 v0_26 v0_27 v0_28 v0_29 v0_30 v0_31 v0_32 v0_33 v0_34 v0_35 v0_36 v0_37 o_thrown0 state1) sz [.ref h0, .int p1] r := by
  refine en_i (by decide) (Nat.le_of_ble_eq_true rfl) (fun p e s m args below meth c A ls C w hl => ?_)
  have C : Cx p s m args meth c RX10 m_X10_invoiceOf g A := C
  have hx := C.1
  have hb : c.code = cX10_invoiceOf := C.2.1
  have hl : lv_has ls 2 [(0, .ref h0), (1, .int p1)] := hl
  obtain ⟨Q, hQ⟩ : ∃ Q, Q = QI below args s g A (fun _ => w_X10_invoiceOf g h0 h1 v0_1 v0_2 v0_3 v0_4 v0_5 v0_6 v0_7 v0_8 v0_9 v0_10 v0_11 v0_12 v0_13 v0_14 v0_15 v0_16 v0_17 v0_18 v0_19 v0_20 v0_22 v0_23 v0_24 v0_25 v0_26 v0_27 v0_28 v0_29 v0_30 v0_31 v0_32 v0_33 v0_34 v0_35 v0_36 v0_37 o_thrown0 state1) r 0 0 := ⟨_, rfl⟩
  suffices hW : W p l e (rml 3 0 0) s m args below meth c s.heap [] 0 0 Q (F0 m 0 ls []) from (by rw [hQ] at hW; exact hW)
  unfold f_X10_invoiceOf at hf
  refine lv_aload_n hx hb dX10_invoiceOf_0 rfl (lv_at hl 0 rfl) ?_
  refine lv_iload_n hx hb dX10_invoiceOf_1 rfl (lv_at hl 1 rfl) ?_
  refine lv_iconst (v := 0) hx hb dX10_invoiceOf_2 (by decide) ?_
  obtain ⟨r1, o2, hc3, hf⟩ := bd2_some hf
  refine ca_iV C w (wn := fun _ => w_X10_invoiceOf g h0 h1 v0_1 v0_2 v0_3 v0_4 v0_5 v0_6 v0_7 v0_8 v0_9 v0_10 v0_11 v0_12 v0_13 v0_14 v0_15 v0_16 v0_17 v0_18 v0_19 v0_20 v0_22 v0_23 v0_24 v0_25 v0_26 v0_27 v0_28 v0_29 v0_30 v0_31 v0_32 v0_33 v0_34 v0_35 v0_36 v0_37 o2 state1) (pm_k [true, true] rfl rfl (fun _ => Nat.le_of_ble_eq_true rfl) (fun _ => rfl)) (c_X10_lookTrip l g F h0 h1 v0_1 v0_2 v0_3 v0_4 v0_5 v0_6 v0_7 v0_8 v0_9 v0_10 v0_11 v0_12 v0_13 v0_14 v0_15 v0_16 v0_17 v0_18 v0_19 v0_20 v0_22 v0_23 v0_24 v0_25 v0_26 v0_27 v0_28 v0_29 v0_30 v0_31 v0_32 v0_33 v0_34 v0_35 v0_36 v0_37 p1 0 thrown0 state1 r1 o2 _ hc3) k_X10_322 (rm_le (by decide) (by decide)) 0 10 rfl rfl rfl rfl hl.1 rfl (Nat.le_of_ble_eq_true rfl) dX10_invoiceOf_3 ⟨Nat.le_of_ble_eq_true rfl, Nat.le_of_ble_eq_true rfl⟩ (cells2 := 0) (slots2 := 0) ⟨rfl, rfl⟩ (fun _ H locs w => ?_)
  obtain ⟨e1, e2⟩ := tp2 hf
  rw [hQ]
  exact rt_i C w rfl (fun _ => 0) (by rw [← e2]) e1 dX10_invoiceOf_6

theorem dX10_invoiceCount_0 : decode cX10_invoiceCount 0 = .ok (.aload_n 0, 1) := by decide +kernel
theorem dX10_invoiceCount_1 : decode cX10_invoiceCount 1 = .ok (.aload_n 0, 1) := by decide +kernel
theorem dX10_invoiceCount_2 : decode cX10_invoiceCount 2 = .ok (.getfield 44, 3) := by decide +kernel
theorem dX10_invoiceCount_5 : decode cX10_invoiceCount 5 = .ok (.iconst 2, 1) := by decide +kernel
theorem dX10_invoiceCount_6 : decode cX10_invoiceCount 6 = .ok (.iaload, 1) := by decide +kernel
theorem dX10_invoiceCount_7 : decode cX10_invoiceCount 7 = .ok (.invokevirtual 215, 3) := by decide +kernel
theorem dX10_invoiceCount_10 : decode cX10_invoiceCount 10 = .ok (.ireturn, 1) := by decide +kernel
abbrev m_X10_invoiceCount : MD := (yX10_invoiceCount, cX10_invoiceCount, 1, (some .int))

abbrev w_X10_invoiceCount (g : GT) (h0 h1 : Nat) (v0_1 v0_2 v0_3 v0_4 v0_5 v0_6 v0_7 v0_8 v0_9 v0_10 v0_11 v0_12 v0_13 v0_14 v0_15 v0_16 v0_17 v0_18 v0_19 v0_20 v0_22 v0_23 v0_24 v0_25 v0_26 v0_27 v0_28 v0_29 v0_30 v0_31 v0_32 v0_33 v0_34 v0_35 v0_36 v0_37 : Value) (thrown0 : Int32) (state1 : Nat → Int32) : va_W := [(h0, .inr (10, [.int thrown0, v0_1, v0_2, v0_3, v0_4, v0_5, v0_6, v0_7, v0_8, v0_9, v0_10, v0_11, v0_12, v0_13, v0_14, v0_15, v0_16, v0_17, v0_18, v0_19, v0_20, .ref h1, v0_22, v0_23, v0_24, v0_25, v0_26, v0_27, v0_28, v0_29, v0_30, v0_31, v0_32, v0_33, v0_34, v0_35, v0_36, v0_37])), (h1, aI g 2524 state1)]
def f_X10_invoiceCount (F : Nat) (thrown0 : Int32) (state1 : Nat → Int32) : Option (Int32 × Int32) :=
  rd state1 2524 2 fun a1 =>
  bd2 (f_X10_told F a1 thrown0) fun r2 o3 =>
  some (r2, o3)
set_option maxHeartbeats 4000000 in
set_option maxRecDepth 100000 in
theorem c_X10_invoiceCount (l : Launch) (g : GT) (F : Nat) (h0 h1 : Nat) (v0_1 v0_2 v0_3 v0_4 v0_5 v0_6 v0_7 v0_8 v0_9 v0_10 v0_11 v0_12 v0_13 v0_14 v0_15 v0_16 v0_17 v0_18 v0_19 v0_20 v0_22 v0_23 v0_24 v0_25 v0_26 v0_27 v0_28 v0_29 v0_30 v0_31 v0_32 v0_33 v0_34 v0_35 v0_36 v0_37 : Value) (thrown0 : Int32) (state1 : Nat → Int32) (r o_thrown0 : Int32) (sz : Nat) (hf : f_X10_invoiceCount F thrown0 state1 = some (r, o_thrown0)) : CI l m_X10_invoiceCount (rml 1 0 0) g (w_X10_invoiceCount g h0 h1 v0_1 v0_2 v0_3 v0_4 v0_5 v0_6 v0_7 v0_8 v0_9 v0_10 v0_11 v0_12 v0_13 v0_14 v0_15 v0_16 v0_17 v0_18 v0_19 v0_20 v0_22 v0_23 v0_24 v0_25 v0_26 v0_27 v0_28 v0_29 v0_30 v0_31 v0_32 v0_33 v0_34 v0_35 v0_36 v0_37 thrown0 state1) (fun _ => w_X10_invoiceCount g h0 h1 v0_1 v0_2 v0_3 v0_4 v0_5 v0_6 v0_7 v0_8 v0_9 v0_10 v0_11 v0_12 v0_13 v0_14 v0_15 v0_16 v0_17 v0_18 v0_19 v0_20 v0_22 v0_23 v0_24 v0_25 v0_26 v0_27 v0_28 v0_29 v0_30 v0_31 v0_32 v0_33 v0_34 v0_35 v0_36 v0_37 o_thrown0 state1) sz [.ref h0] r := by
  refine en_i (by decide) (Nat.le_of_ble_eq_true rfl) (fun p e s m args below meth c A ls C w hl => ?_)
  have C : Cx p s m args meth c RX10 m_X10_invoiceCount g A := C
  have hx := C.1
  have hb : c.code = cX10_invoiceCount := C.2.1
  have hl : lv_has ls 1 [(0, .ref h0)] := hl
  obtain ⟨Q, hQ⟩ : ∃ Q, Q = QI below args s g A (fun _ => w_X10_invoiceCount g h0 h1 v0_1 v0_2 v0_3 v0_4 v0_5 v0_6 v0_7 v0_8 v0_9 v0_10 v0_11 v0_12 v0_13 v0_14 v0_15 v0_16 v0_17 v0_18 v0_19 v0_20 v0_22 v0_23 v0_24 v0_25 v0_26 v0_27 v0_28 v0_29 v0_30 v0_31 v0_32 v0_33 v0_34 v0_35 v0_36 v0_37 o_thrown0 state1) r 0 0 := ⟨_, rfl⟩
  suffices hW : W p l e (rml 1 0 0) s m args below meth c s.heap [] 0 0 Q (F0 m 0 ls []) from (by rw [hQ] at hW; exact hW)
  unfold f_X10_invoiceCount at hf
  refine lv_aload_n hx hb dX10_invoiceCount_0 rfl (lv_at hl 0 rfl) ?_
  refine lv_aload_n hx hb dX10_invoiceCount_1 rfl (lv_at hl 0 rfl) ?_
  refine g_X10_44 C w 0 rfl rfl dX10_invoiceCount_2 ?_
  refine lv_iconst (v := 2) hx hb dX10_invoiceCount_5 (by decide) ?_
  obtain ⟨a1, hia1, haa1, hf⟩ := rd_some hf
  refine ial C w 1 rfl hia1 haa1 dX10_invoiceCount_6 ?_
  obtain ⟨r2, o3, hc4, hf⟩ := bd2_some hf
  refine ca_iV C w (wn := fun _ => w_X10_invoiceCount g h0 h1 v0_1 v0_2 v0_3 v0_4 v0_5 v0_6 v0_7 v0_8 v0_9 v0_10 v0_11 v0_12 v0_13 v0_14 v0_15 v0_16 v0_17 v0_18 v0_19 v0_20 v0_22 v0_23 v0_24 v0_25 v0_26 v0_27 v0_28 v0_29 v0_30 v0_31 v0_32 v0_33 v0_34 v0_35 v0_36 v0_37 o3 state1) (pm_k [true, false] rfl rfl (fun _ => Nat.le_of_ble_eq_true rfl) (fun _ => rfl)) (c_X10_told l g F h0 v0_1 v0_2 v0_3 v0_4 v0_5 v0_6 v0_7 v0_8 v0_9 v0_10 v0_11 v0_12 v0_13 v0_14 v0_15 v0_16 v0_17 v0_18 v0_19 v0_20 (.ref h1) v0_22 v0_23 v0_24 v0_25 v0_26 v0_27 v0_28 v0_29 v0_30 v0_31 v0_32 v0_33 v0_34 v0_35 v0_36 v0_37 a1 thrown0 r2 o3 _ hc4) k_X10_215 (rm_le (by decide) (by decide)) 0 10 rfl rfl rfl rfl hl.1 rfl (Nat.le_of_ble_eq_true rfl) dX10_invoiceCount_7 ⟨Nat.le_of_ble_eq_true rfl, Nat.le_of_ble_eq_true rfl⟩ (cells2 := 0) (slots2 := 0) ⟨rfl, rfl⟩ (fun _ H locs w => ?_)
  obtain ⟨e1, e2⟩ := tp2 hf
  rw [hQ]
  exact rt_i C w rfl (fun _ => 0) (by rw [← e2]) e1 dX10_invoiceCount_10

theorem dX10_invoiceTag_0 : decode cX10_invoiceTag 0 = .ok (.aload_n 0, 1) := by decide +kernel
theorem dX10_invoiceTag_1 : decode cX10_invoiceTag 1 = .ok (.iconst 0, 1) := by decide +kernel
theorem dX10_invoiceTag_2 : decode cX10_invoiceTag 2 = .ok (.putfield 84, 3) := by decide +kernel
theorem dX10_invoiceTag_5 : decode cX10_invoiceTag 5 = .ok (.aload_n 0, 1) := by decide +kernel
theorem dX10_invoiceTag_6 : decode cX10_invoiceTag 6 = .ok (.iload_n 1, 1) := by decide +kernel
theorem dX10_invoiceTag_7 : decode cX10_invoiceTag 7 = .ok (.invokevirtual 325, 3) := by decide +kernel
theorem dX10_invoiceTag_10 : decode cX10_invoiceTag 10 = .ok (.ifCond .eq 12, 3) := by decide +kernel
theorem dX10_invoiceTag_13 : decode cX10_invoiceTag 13 = .ok (.aload_n 0, 1) := by decide +kernel
theorem dX10_invoiceTag_14 : decode cX10_invoiceTag 14 = .ok (.iload_n 1, 1) := by decide +kernel
theorem dX10_invoiceTag_15 : decode cX10_invoiceTag 15 = .ok (.iconst 0, 1) := by decide +kernel
theorem dX10_invoiceTag_16 : decode cX10_invoiceTag 16 = .ok (.invokevirtual 328, 3) := by decide +kernel
theorem dX10_invoiceTag_19 : decode cX10_invoiceTag 19 = .ok (.goto 8, 3) := by decide +kernel
theorem dX10_invoiceTag_22 : decode cX10_invoiceTag 22 = .ok (.aload_n 0, 1) := by decide +kernel
theorem dX10_invoiceTag_23 : decode cX10_invoiceTag 23 = .ok (.iconst 1, 1) := by decide +kernel
theorem dX10_invoiceTag_24 : decode cX10_invoiceTag 24 = .ok (.invokevirtual 202, 3) := by decide +kernel
theorem dX10_invoiceTag_27 : decode cX10_invoiceTag 27 = .ok (.ireturn, 1) := by decide +kernel
abbrev m_X10_invoiceTag : MD := (yX10_invoiceTag, cX10_invoiceTag, 2, (some .int))
theorem q_1663 : Cond.code yX10_isInvoice cX10_isInvoice 2 (some .boolean) ∈ TS := ts_t 1663 (by decide +kernel) (by decide +kernel)
theorem q_1660 : Cond.methodLink RX10 325 yX10_isInvoice ∈ TS := ts_t 1660 (by decide +kernel) (by decide +kernel)
theorem q_1662 : Cond.instanceMethod yX10_isInvoice ∈ TS := ts_t 1662 (by decide +kernel) (by decide +kernel)
theorem qs_126 : Cond.selects yX10_isInvoice.cls yX10_isInvoice yX10_isInvoice ∈ TS := ts_s 126 (by decide +kernel) (by decide +kernel)
theorem k_X10_325 : LkV RX10 325 m_X10_isInvoice 1 := ⟨q_1660, q_1662, qs_126, ⟨q_11, q_1663, by decide, by decide, by decide +kernel⟩⟩
theorem q_1667 : Cond.code yX10_ofInvoice cX10_ofInvoice 3 (some .int) ∈ TS := ts_t 1667 (by decide +kernel) (by decide +kernel)
theorem q_1664 : Cond.methodLink RX10 328 yX10_ofInvoice ∈ TS := ts_t 1664 (by decide +kernel) (by decide +kernel)
theorem q_1666 : Cond.instanceMethod yX10_ofInvoice ∈ TS := ts_t 1666 (by decide +kernel) (by decide +kernel)
theorem qs_127 : Cond.selects yX10_ofInvoice.cls yX10_ofInvoice yX10_ofInvoice ∈ TS := ts_s 127 (by decide +kernel) (by decide +kernel)
theorem k_X10_328 : LkV RX10 328 m_X10_ofInvoice 2 := ⟨q_1664, q_1666, qs_127, ⟨q_11, q_1667, by decide, by decide, by decide +kernel⟩⟩
abbrev w_X10_invoiceTag (g : GT) (h0 h1 : Nat) (v0_1 v0_2 v0_3 v0_4 v0_5 v0_6 v0_7 v0_8 v0_9 v0_10 v0_11 v0_12 v0_13 v0_14 v0_15 v0_16 v0_17 v0_18 v0_19 v0_20 v0_22 v0_23 v0_24 v0_25 v0_26 v0_27 v0_28 v0_29 v0_30 v0_31 v0_32 v0_33 v0_34 v0_35 v0_36 v0_37 : Value) (thrown0 : Int32) (state1 : Nat → Int32) : va_W := [(h0, .inr (10, [.int thrown0, v0_1, v0_2, v0_3, v0_4, v0_5, v0_6, v0_7, v0_8, v0_9, v0_10, v0_11, v0_12, v0_13, v0_14, v0_15, v0_16, v0_17, v0_18, v0_19, v0_20, .ref h1, v0_22, v0_23, v0_24, v0_25, v0_26, v0_27, v0_28, v0_29, v0_30, v0_31, v0_32, v0_33, v0_34, v0_35, v0_36, v0_37])), (h1, aI g 2524 state1)]
def f_X10_invoiceTag_b27 (F : Nat) (state1 : Nat → Int32) (s0 thrown0 : Int32) : Option (Int32 × Int32) :=
  some (s0, thrown0)
def f_X10_invoiceTag (F : Nat) (p1 thrown0 : Int32) (state1 : Nat → Int32) : Option (Int32 × Int32) :=
  bd1 (f_X10_isInvoice F p1 state1) fun r1 =>
  if r1 = 0 then
    bd2 (f_X10_fail F 1 0) fun r4 o5 =>
    f_X10_invoiceTag_b27 F state1 r4 o5
  else
    bd1 (f_X10_ofInvoice F p1 0 state1) fun r7 =>
    f_X10_invoiceTag_b27 F state1 r7 0
set_option maxHeartbeats 4000000 in
set_option maxRecDepth 100000 in
theorem c_X10_invoiceTag (l : Launch) (g : GT) (F : Nat) (h0 h1 : Nat) (v0_1 v0_2 v0_3 v0_4 v0_5 v0_6 v0_7 v0_8 v0_9 v0_10 v0_11 v0_12 v0_13 v0_14 v0_15 v0_16 v0_17 v0_18 v0_19 v0_20 v0_22 v0_23 v0_24 v0_25 v0_26 v0_27 v0_28 v0_29 v0_30 v0_31 v0_32 v0_33 v0_34 v0_35 v0_36 v0_37 : Value) (p1 thrown0 : Int32) (state1 : Nat → Int32) (r o_thrown0 : Int32) (sz : Nat) (hf : f_X10_invoiceTag F p1 thrown0 state1 = some (r, o_thrown0)) : CI l m_X10_invoiceTag (rml 2 0 0) g (w_X10_invoiceTag g h0 h1 v0_1 v0_2 v0_3 v0_4 v0_5 v0_6 v0_7 v0_8 v0_9 v0_10 v0_11 v0_12 v0_13 v0_14 v0_15 v0_16 v0_17 v0_18 v0_19 v0_20 v0_22 v0_23 v0_24 v0_25 v0_26 v0_27 v0_28 v0_29 v0_30 v0_31 v0_32 v0_33 v0_34 v0_35 v0_36 v0_37 thrown0 state1) (fun _ => w_X10_invoiceTag g h0 h1 v0_1 v0_2 v0_3 v0_4 v0_5 v0_6 v0_7 v0_8 v0_9 v0_10 v0_11 v0_12 v0_13 v0_14 v0_15 v0_16 v0_17 v0_18 v0_19 v0_20 v0_22 v0_23 v0_24 v0_25 v0_26 v0_27 v0_28 v0_29 v0_30 v0_31 v0_32 v0_33 v0_34 v0_35 v0_36 v0_37 o_thrown0 state1) sz [.ref h0, .int p1] r := by
  refine en_i (by decide) (Nat.le_of_ble_eq_true rfl) (fun p e s m args below meth c A ls C w hl => ?_)
  have C : Cx p s m args meth c RX10 m_X10_invoiceTag g A := C
  have hx := C.1
  have hb : c.code = cX10_invoiceTag := C.2.1
  have hl : lv_has ls 2 [(0, .ref h0), (1, .int p1)] := hl
  obtain ⟨Q, hQ⟩ : ∃ Q, Q = QI below args s g A (fun _ => w_X10_invoiceTag g h0 h1 v0_1 v0_2 v0_3 v0_4 v0_5 v0_6 v0_7 v0_8 v0_9 v0_10 v0_11 v0_12 v0_13 v0_14 v0_15 v0_16 v0_17 v0_18 v0_19 v0_20 v0_22 v0_23 v0_24 v0_25 v0_26 v0_27 v0_28 v0_29 v0_30 v0_31 v0_32 v0_33 v0_34 v0_35 v0_36 v0_37 o_thrown0 state1) r 0 0 := ⟨_, rfl⟩
  suffices hW : W p l e (rml 2 0 0) s m args below meth c s.heap [] 0 0 Q (F0 m 0 ls []) from (by rw [hQ] at hW; exact hW)
  unfold f_X10_invoiceTag at hf
  have b27 : ∀ (s0 thrown0 : Int32) (H : Heap) (locs : List Loc) (ls : Array Slot), f_X10_invoiceTag_b27 F state1 s0 thrown0 = some (r, o_thrown0) → Wd g A (w_X10_invoiceTag g h0 h1 v0_1 v0_2 v0_3 v0_4 v0_5 v0_6 v0_7 v0_8 v0_9 v0_10 v0_11 v0_12 v0_13 v0_14 v0_15 v0_16 v0_17 v0_18 v0_19 v0_20 v0_22 v0_23 v0_24 v0_25 v0_26 v0_27 v0_28 v0_29 v0_30 v0_31 v0_32 v0_33 v0_34 v0_35 v0_36 v0_37 thrown0 state1) s.heap H locs → lv_has ls 2 [] → W p l e (rml 2 0 0) s m args below meth c H locs 0 0 Q (F0 m 27 ls [.int s0]) := by
    intro s0 thrown0 H locs ls hf w hl
    unfold f_X10_invoiceTag_b27 at hf
    obtain ⟨e1, e2⟩ := tp2 hf
    rw [hQ]
    exact rt_i C w rfl (fun _ => 0) (by rw [← e2]) e1 dX10_invoiceTag_27
  refine lv_aload_n hx hb dX10_invoiceTag_0 rfl (lv_at hl 0 rfl) ?_
  refine lv_iconst (v := 0) hx hb dX10_invoiceTag_1 (by decide) ?_
  refine p_X10_84 C w 0 rfl (Nat.le_of_ble_eq_true rfl) (ws2 := w_X10_invoiceTag g h0 h1 v0_1 v0_2 v0_3 v0_4 v0_5 v0_6 v0_7 v0_8 v0_9 v0_10 v0_11 v0_12 v0_13 v0_14 v0_15 v0_16 v0_17 v0_18 v0_19 v0_20 v0_22 v0_23 v0_24 v0_25 v0_26 v0_27 v0_28 v0_29 v0_30 v0_31 v0_32 v0_33 v0_34 v0_35 v0_36 v0_37 0 state1) rfl dX10_invoiceTag_2 (fun H locs w => ?_)
  refine lv_aload_n hx hb dX10_invoiceTag_5 rfl (lv_at hl 0 rfl) ?_
  refine lv_iload_n hx hb dX10_invoiceTag_6 rfl (lv_at hl 1 rfl) ?_
  obtain ⟨r1, hc2, hf⟩ := bd1_some hf
  refine ca_iV C w (wn := fun _ => w_X10_invoiceTag g h0 h1 v0_1 v0_2 v0_3 v0_4 v0_5 v0_6 v0_7 v0_8 v0_9 v0_10 v0_11 v0_12 v0_13 v0_14 v0_15 v0_16 v0_17 v0_18 v0_19 v0_20 v0_22 v0_23 v0_24 v0_25 v0_26 v0_27 v0_28 v0_29 v0_30 v0_31 v0_32 v0_33 v0_34 v0_35 v0_36 v0_37 0 state1) (pm_k [true, true] rfl rfl (fun _ => Nat.le_of_ble_eq_true rfl) (fun _ => rfl)) (c_X10_isInvoice l g F h0 h1 (.int 0) v0_1 v0_2 v0_3 v0_4 v0_5 v0_6 v0_7 v0_8 v0_9 v0_10 v0_11 v0_12 v0_13 v0_14 v0_15 v0_16 v0_17 v0_18 v0_19 v0_20 v0_22 v0_23 v0_24 v0_25 v0_26 v0_27 v0_28 v0_29 v0_30 v0_31 v0_32 v0_33 v0_34 v0_35 v0_36 v0_37 p1 state1 r1 _ hc2) k_X10_325 (rm_le (by decide) (by decide)) 0 10 rfl rfl rfl rfl hl.1 rfl (Nat.le_of_ble_eq_true rfl) dX10_invoiceTag_7 ⟨Nat.le_of_ble_eq_true rfl, Nat.le_of_ble_eq_true rfl⟩ (cells2 := 0) (slots2 := 0) ⟨rfl, rfl⟩ (fun _ H locs w => ?_)
  refine lv_if_eq (tgt := 22) hx hb dX10_invoiceTag_10 (by decide) (fun c3 => ?_) (fun c3 => ?_)
  · replace hf := it_t c3 hf
    refine lv_aload_n hx hb dX10_invoiceTag_22 rfl (lv_at hl 0 rfl) ?_
    refine lv_iconst (v := 1) hx hb dX10_invoiceTag_23 (by decide) ?_
    obtain ⟨r4, o5, hc6, hf⟩ := bd2_some hf
    refine ca_iV C w (wn := fun _ => w_X10_invoiceTag g h0 h1 v0_1 v0_2 v0_3 v0_4 v0_5 v0_6 v0_7 v0_8 v0_9 v0_10 v0_11 v0_12 v0_13 v0_14 v0_15 v0_16 v0_17 v0_18 v0_19 v0_20 v0_22 v0_23 v0_24 v0_25 v0_26 v0_27 v0_28 v0_29 v0_30 v0_31 v0_32 v0_33 v0_34 v0_35 v0_36 v0_37 o5 state1) (pm_k [true, false] rfl rfl (fun _ => Nat.le_of_ble_eq_true rfl) (fun _ => rfl)) (c_X10_fail l g F h0 v0_1 v0_2 v0_3 v0_4 v0_5 v0_6 v0_7 v0_8 v0_9 v0_10 v0_11 v0_12 v0_13 v0_14 v0_15 v0_16 v0_17 v0_18 v0_19 v0_20 (.ref h1) v0_22 v0_23 v0_24 v0_25 v0_26 v0_27 v0_28 v0_29 v0_30 v0_31 v0_32 v0_33 v0_34 v0_35 v0_36 v0_37 1 0 r4 o5 _ hc6) k_X10_202 (rm_le (by decide) (by decide)) 0 10 rfl rfl rfl rfl hl.1 rfl (Nat.le_of_ble_eq_true rfl) dX10_invoiceTag_24 ⟨Nat.le_of_ble_eq_true rfl, Nat.le_of_ble_eq_true rfl⟩ (cells2 := 0) (slots2 := 0) ⟨rfl, rfl⟩ (fun _ H locs w => ?_)
    exact b27 r4 o5 _ _ _ hf w (lv_sub hl [] rfl)
  · replace hf := it_f c3 hf
    refine lv_aload_n hx hb dX10_invoiceTag_13 rfl (lv_at hl 0 rfl) ?_
    refine lv_iload_n hx hb dX10_invoiceTag_14 rfl (lv_at hl 1 rfl) ?_
    refine lv_iconst (v := 0) hx hb dX10_invoiceTag_15 (by decide) ?_
    obtain ⟨r7, hc8, hf⟩ := bd1_some hf
    refine ca_iV C w (wn := fun _ => w_X10_invoiceTag g h0 h1 v0_1 v0_2 v0_3 v0_4 v0_5 v0_6 v0_7 v0_8 v0_9 v0_10 v0_11 v0_12 v0_13 v0_14 v0_15 v0_16 v0_17 v0_18 v0_19 v0_20 v0_22 v0_23 v0_24 v0_25 v0_26 v0_27 v0_28 v0_29 v0_30 v0_31 v0_32 v0_33 v0_34 v0_35 v0_36 v0_37 0 state1) (pm_k [true, true] rfl rfl (fun _ => Nat.le_of_ble_eq_true rfl) (fun _ => rfl)) (c_X10_ofInvoice l g F h0 h1 (.int 0) v0_1 v0_2 v0_3 v0_4 v0_5 v0_6 v0_7 v0_8 v0_9 v0_10 v0_11 v0_12 v0_13 v0_14 v0_15 v0_16 v0_17 v0_18 v0_19 v0_20 v0_22 v0_23 v0_24 v0_25 v0_26 v0_27 v0_28 v0_29 v0_30 v0_31 v0_32 v0_33 v0_34 v0_35 v0_36 v0_37 p1 0 state1 r7 _ hc8) k_X10_328 (rm_le (by decide) (by decide)) 0 10 rfl rfl rfl rfl hl.1 rfl (Nat.le_of_ble_eq_true rfl) dX10_invoiceTag_16 ⟨Nat.le_of_ble_eq_true rfl, Nat.le_of_ble_eq_true rfl⟩ (cells2 := 0) (slots2 := 0) ⟨rfl, rfl⟩ (fun _ H locs w => ?_)
    refine lv_goto (tgt := 27) hx hb dX10_invoiceTag_19 (by decide) ?_
    exact b27 r7 0 _ _ _ hf w (lv_sub hl [] rfl)

theorem dX10_invoicePlate_0 : decode cX10_invoicePlate 0 = .ok (.aload_n 0, 1) := by decide +kernel
theorem dX10_invoicePlate_1 : decode cX10_invoicePlate 1 = .ok (.iconst 0, 1) := by decide +kernel
theorem dX10_invoicePlate_2 : decode cX10_invoicePlate 2 = .ok (.putfield 84, 3) := by decide +kernel
theorem dX10_invoicePlate_5 : decode cX10_invoicePlate 5 = .ok (.aload_n 0, 1) := by decide +kernel
theorem dX10_invoicePlate_6 : decode cX10_invoicePlate 6 = .ok (.iload_n 1, 1) := by decide +kernel
theorem dX10_invoicePlate_7 : decode cX10_invoicePlate 7 = .ok (.invokevirtual 325, 3) := by decide +kernel
theorem dX10_invoicePlate_10 : decode cX10_invoicePlate 10 = .ok (.ifCond .eq 12, 3) := by decide +kernel
theorem dX10_invoicePlate_13 : decode cX10_invoicePlate 13 = .ok (.aload_n 0, 1) := by decide +kernel
theorem dX10_invoicePlate_14 : decode cX10_invoicePlate 14 = .ok (.iload_n 1, 1) := by decide +kernel
theorem dX10_invoicePlate_15 : decode cX10_invoicePlate 15 = .ok (.iconst 1, 1) := by decide +kernel
theorem dX10_invoicePlate_16 : decode cX10_invoicePlate 16 = .ok (.invokevirtual 328, 3) := by decide +kernel
theorem dX10_invoicePlate_19 : decode cX10_invoicePlate 19 = .ok (.goto 8, 3) := by decide +kernel
theorem dX10_invoicePlate_22 : decode cX10_invoicePlate 22 = .ok (.aload_n 0, 1) := by decide +kernel
theorem dX10_invoicePlate_23 : decode cX10_invoicePlate 23 = .ok (.iconst 1, 1) := by decide +kernel
theorem dX10_invoicePlate_24 : decode cX10_invoicePlate 24 = .ok (.invokevirtual 202, 3) := by decide +kernel
theorem dX10_invoicePlate_27 : decode cX10_invoicePlate 27 = .ok (.ireturn, 1) := by decide +kernel
abbrev m_X10_invoicePlate : MD := (yX10_invoicePlate, cX10_invoicePlate, 2, (some .int))

abbrev w_X10_invoicePlate (g : GT) (h0 h1 : Nat) (v0_1 v0_2 v0_3 v0_4 v0_5 v0_6 v0_7 v0_8 v0_9 v0_10 v0_11 v0_12 v0_13 v0_14 v0_15 v0_16 v0_17 v0_18 v0_19 v0_20 v0_22 v0_23 v0_24 v0_25 v0_26 v0_27 v0_28 v0_29 v0_30 v0_31 v0_32 v0_33 v0_34 v0_35 v0_36 v0_37 : Value) (thrown0 : Int32) (state1 : Nat → Int32) : va_W := [(h0, .inr (10, [.int thrown0, v0_1, v0_2, v0_3, v0_4, v0_5, v0_6, v0_7, v0_8, v0_9, v0_10, v0_11, v0_12, v0_13, v0_14, v0_15, v0_16, v0_17, v0_18, v0_19, v0_20, .ref h1, v0_22, v0_23, v0_24, v0_25, v0_26, v0_27, v0_28, v0_29, v0_30, v0_31, v0_32, v0_33, v0_34, v0_35, v0_36, v0_37])), (h1, aI g 2524 state1)]
def f_X10_invoicePlate_b27 (F : Nat) (state1 : Nat → Int32) (s0 thrown0 : Int32) : Option (Int32 × Int32) :=
  some (s0, thrown0)
def f_X10_invoicePlate (F : Nat) (p1 thrown0 : Int32) (state1 : Nat → Int32) : Option (Int32 × Int32) :=
  bd1 (f_X10_isInvoice F p1 state1) fun r1 =>
  if r1 = 0 then
    bd2 (f_X10_fail F 1 0) fun r4 o5 =>
    f_X10_invoicePlate_b27 F state1 r4 o5
  else
    bd1 (f_X10_ofInvoice F p1 1 state1) fun r7 =>
    f_X10_invoicePlate_b27 F state1 r7 0
set_option maxHeartbeats 4000000 in
set_option maxRecDepth 100000 in
theorem c_X10_invoicePlate (l : Launch) (g : GT) (F : Nat) (h0 h1 : Nat) (v0_1 v0_2 v0_3 v0_4 v0_5 v0_6 v0_7 v0_8 v0_9 v0_10 v0_11 v0_12 v0_13 v0_14 v0_15 v0_16 v0_17 v0_18 v0_19 v0_20 v0_22 v0_23 v0_24 v0_25 v0_26 v0_27 v0_28 v0_29 v0_30 v0_31 v0_32 v0_33 v0_34 v0_35 v0_36 v0_37 : Value) (p1 thrown0 : Int32) (state1 : Nat → Int32) (r o_thrown0 : Int32) (sz : Nat) (hf : f_X10_invoicePlate F p1 thrown0 state1 = some (r, o_thrown0)) : CI l m_X10_invoicePlate (rml 2 0 0) g (w_X10_invoicePlate g h0 h1 v0_1 v0_2 v0_3 v0_4 v0_5 v0_6 v0_7 v0_8 v0_9 v0_10 v0_11 v0_12 v0_13 v0_14 v0_15 v0_16 v0_17 v0_18 v0_19 v0_20 v0_22 v0_23 v0_24 v0_25 v0_26 v0_27 v0_28 v0_29 v0_30 v0_31 v0_32 v0_33 v0_34 v0_35 v0_36 v0_37 thrown0 state1) (fun _ => w_X10_invoicePlate g h0 h1 v0_1 v0_2 v0_3 v0_4 v0_5 v0_6 v0_7 v0_8 v0_9 v0_10 v0_11 v0_12 v0_13 v0_14 v0_15 v0_16 v0_17 v0_18 v0_19 v0_20 v0_22 v0_23 v0_24 v0_25 v0_26 v0_27 v0_28 v0_29 v0_30 v0_31 v0_32 v0_33 v0_34 v0_35 v0_36 v0_37 o_thrown0 state1) sz [.ref h0, .int p1] r := by
  refine en_i (by decide) (Nat.le_of_ble_eq_true rfl) (fun p e s m args below meth c A ls C w hl => ?_)
  have C : Cx p s m args meth c RX10 m_X10_invoicePlate g A := C
  have hx := C.1
  have hb : c.code = cX10_invoicePlate := C.2.1
  have hl : lv_has ls 2 [(0, .ref h0), (1, .int p1)] := hl
  obtain ⟨Q, hQ⟩ : ∃ Q, Q = QI below args s g A (fun _ => w_X10_invoicePlate g h0 h1 v0_1 v0_2 v0_3 v0_4 v0_5 v0_6 v0_7 v0_8 v0_9 v0_10 v0_11 v0_12 v0_13 v0_14 v0_15 v0_16 v0_17 v0_18 v0_19 v0_20 v0_22 v0_23 v0_24 v0_25 v0_26 v0_27 v0_28 v0_29 v0_30 v0_31 v0_32 v0_33 v0_34 v0_35 v0_36 v0_37 o_thrown0 state1) r 0 0 := ⟨_, rfl⟩
  suffices hW : W p l e (rml 2 0 0) s m args below meth c s.heap [] 0 0 Q (F0 m 0 ls []) from (by rw [hQ] at hW; exact hW)
  unfold f_X10_invoicePlate at hf
  have b27 : ∀ (s0 thrown0 : Int32) (H : Heap) (locs : List Loc) (ls : Array Slot), f_X10_invoicePlate_b27 F state1 s0 thrown0 = some (r, o_thrown0) → Wd g A (w_X10_invoicePlate g h0 h1 v0_1 v0_2 v0_3 v0_4 v0_5 v0_6 v0_7 v0_8 v0_9 v0_10 v0_11 v0_12 v0_13 v0_14 v0_15 v0_16 v0_17 v0_18 v0_19 v0_20 v0_22 v0_23 v0_24 v0_25 v0_26 v0_27 v0_28 v0_29 v0_30 v0_31 v0_32 v0_33 v0_34 v0_35 v0_36 v0_37 thrown0 state1) s.heap H locs → lv_has ls 2 [] → W p l e (rml 2 0 0) s m args below meth c H locs 0 0 Q (F0 m 27 ls [.int s0]) := by
    intro s0 thrown0 H locs ls hf w hl
    unfold f_X10_invoicePlate_b27 at hf
    obtain ⟨e1, e2⟩ := tp2 hf
    rw [hQ]
    exact rt_i C w rfl (fun _ => 0) (by rw [← e2]) e1 dX10_invoicePlate_27
  refine lv_aload_n hx hb dX10_invoicePlate_0 rfl (lv_at hl 0 rfl) ?_
  refine lv_iconst (v := 0) hx hb dX10_invoicePlate_1 (by decide) ?_
  refine p_X10_84 C w 0 rfl (Nat.le_of_ble_eq_true rfl) (ws2 := w_X10_invoicePlate g h0 h1 v0_1 v0_2 v0_3 v0_4 v0_5 v0_6 v0_7 v0_8 v0_9 v0_10 v0_11 v0_12 v0_13 v0_14 v0_15 v0_16 v0_17 v0_18 v0_19 v0_20 v0_22 v0_23 v0_24 v0_25 v0_26 v0_27 v0_28 v0_29 v0_30 v0_31 v0_32 v0_33 v0_34 v0_35 v0_36 v0_37 0 state1) rfl dX10_invoicePlate_2 (fun H locs w => ?_)
  refine lv_aload_n hx hb dX10_invoicePlate_5 rfl (lv_at hl 0 rfl) ?_
  refine lv_iload_n hx hb dX10_invoicePlate_6 rfl (lv_at hl 1 rfl) ?_
  obtain ⟨r1, hc2, hf⟩ := bd1_some hf
  refine ca_iV C w (wn := fun _ => w_X10_invoicePlate g h0 h1 v0_1 v0_2 v0_3 v0_4 v0_5 v0_6 v0_7 v0_8 v0_9 v0_10 v0_11 v0_12 v0_13 v0_14 v0_15 v0_16 v0_17 v0_18 v0_19 v0_20 v0_22 v0_23 v0_24 v0_25 v0_26 v0_27 v0_28 v0_29 v0_30 v0_31 v0_32 v0_33 v0_34 v0_35 v0_36 v0_37 0 state1) (pm_k [true, true] rfl rfl (fun _ => Nat.le_of_ble_eq_true rfl) (fun _ => rfl)) (c_X10_isInvoice l g F h0 h1 (.int 0) v0_1 v0_2 v0_3 v0_4 v0_5 v0_6 v0_7 v0_8 v0_9 v0_10 v0_11 v0_12 v0_13 v0_14 v0_15 v0_16 v0_17 v0_18 v0_19 v0_20 v0_22 v0_23 v0_24 v0_25 v0_26 v0_27 v0_28 v0_29 v0_30 v0_31 v0_32 v0_33 v0_34 v0_35 v0_36 v0_37 p1 state1 r1 _ hc2) k_X10_325 (rm_le (by decide) (by decide)) 0 10 rfl rfl rfl rfl hl.1 rfl (Nat.le_of_ble_eq_true rfl) dX10_invoicePlate_7 ⟨Nat.le_of_ble_eq_true rfl, Nat.le_of_ble_eq_true rfl⟩ (cells2 := 0) (slots2 := 0) ⟨rfl, rfl⟩ (fun _ H locs w => ?_)
  refine lv_if_eq (tgt := 22) hx hb dX10_invoicePlate_10 (by decide) (fun c3 => ?_) (fun c3 => ?_)
  · replace hf := it_t c3 hf
    refine lv_aload_n hx hb dX10_invoicePlate_22 rfl (lv_at hl 0 rfl) ?_
    refine lv_iconst (v := 1) hx hb dX10_invoicePlate_23 (by decide) ?_
    obtain ⟨r4, o5, hc6, hf⟩ := bd2_some hf
    refine ca_iV C w (wn := fun _ => w_X10_invoicePlate g h0 h1 v0_1 v0_2 v0_3 v0_4 v0_5 v0_6 v0_7 v0_8 v0_9 v0_10 v0_11 v0_12 v0_13 v0_14 v0_15 v0_16 v0_17 v0_18 v0_19 v0_20 v0_22 v0_23 v0_24 v0_25 v0_26 v0_27 v0_28 v0_29 v0_30 v0_31 v0_32 v0_33 v0_34 v0_35 v0_36 v0_37 o5 state1) (pm_k [true, false] rfl rfl (fun _ => Nat.le_of_ble_eq_true rfl) (fun _ => rfl)) (c_X10_fail l g F h0 v0_1 v0_2 v0_3 v0_4 v0_5 v0_6 v0_7 v0_8 v0_9 v0_10 v0_11 v0_12 v0_13 v0_14 v0_15 v0_16 v0_17 v0_18 v0_19 v0_20 (.ref h1) v0_22 v0_23 v0_24 v0_25 v0_26 v0_27 v0_28 v0_29 v0_30 v0_31 v0_32 v0_33 v0_34 v0_35 v0_36 v0_37 1 0 r4 o5 _ hc6) k_X10_202 (rm_le (by decide) (by decide)) 0 10 rfl rfl rfl rfl hl.1 rfl (Nat.le_of_ble_eq_true rfl) dX10_invoicePlate_24 ⟨Nat.le_of_ble_eq_true rfl, Nat.le_of_ble_eq_true rfl⟩ (cells2 := 0) (slots2 := 0) ⟨rfl, rfl⟩ (fun _ H locs w => ?_)
    exact b27 r4 o5 _ _ _ hf w (lv_sub hl [] rfl)
  · replace hf := it_f c3 hf
    refine lv_aload_n hx hb dX10_invoicePlate_13 rfl (lv_at hl 0 rfl) ?_
    refine lv_iload_n hx hb dX10_invoicePlate_14 rfl (lv_at hl 1 rfl) ?_
    refine lv_iconst (v := 1) hx hb dX10_invoicePlate_15 (by decide) ?_
    obtain ⟨r7, hc8, hf⟩ := bd1_some hf
    refine ca_iV C w (wn := fun _ => w_X10_invoicePlate g h0 h1 v0_1 v0_2 v0_3 v0_4 v0_5 v0_6 v0_7 v0_8 v0_9 v0_10 v0_11 v0_12 v0_13 v0_14 v0_15 v0_16 v0_17 v0_18 v0_19 v0_20 v0_22 v0_23 v0_24 v0_25 v0_26 v0_27 v0_28 v0_29 v0_30 v0_31 v0_32 v0_33 v0_34 v0_35 v0_36 v0_37 0 state1) (pm_k [true, true] rfl rfl (fun _ => Nat.le_of_ble_eq_true rfl) (fun _ => rfl)) (c_X10_ofInvoice l g F h0 h1 (.int 0) v0_1 v0_2 v0_3 v0_4 v0_5 v0_6 v0_7 v0_8 v0_9 v0_10 v0_11 v0_12 v0_13 v0_14 v0_15 v0_16 v0_17 v0_18 v0_19 v0_20 v0_22 v0_23 v0_24 v0_25 v0_26 v0_27 v0_28 v0_29 v0_30 v0_31 v0_32 v0_33 v0_34 v0_35 v0_36 v0_37 p1 1 state1 r7 _ hc8) k_X10_328 (rm_le (by decide) (by decide)) 0 10 rfl rfl rfl rfl hl.1 rfl (Nat.le_of_ble_eq_true rfl) dX10_invoicePlate_16 ⟨Nat.le_of_ble_eq_true rfl, Nat.le_of_ble_eq_true rfl⟩ (cells2 := 0) (slots2 := 0) ⟨rfl, rfl⟩ (fun _ H locs w => ?_)
    refine lv_goto (tgt := 27) hx hb dX10_invoicePlate_19 (by decide) ?_
    exact b27 r7 0 _ _ _ hf w (lv_sub hl [] rfl)

theorem dX10_totalOf_0 : decode cX10_totalOf 0 = .ok (.aload_n 0, 1) := by decide +kernel
theorem dX10_totalOf_1 : decode cX10_totalOf 1 = .ok (.iload_n 1, 1) := by decide +kernel
theorem dX10_totalOf_2 : decode cX10_totalOf 2 = .ok (.iconst 0, 1) := by decide +kernel
theorem dX10_totalOf_3 : decode cX10_totalOf 3 = .ok (.invokevirtual 328, 3) := by decide +kernel
theorem dX10_totalOf_6 : decode cX10_totalOf 6 = .ok (.ifCond .ge 13, 3) := by decide +kernel
theorem dX10_totalOf_9 : decode cX10_totalOf 9 = .ok (.aload_n 0, 1) := by decide +kernel
theorem dX10_totalOf_10 : decode cX10_totalOf 10 = .ok (.getfield 13, 3) := by decide +kernel
theorem dX10_totalOf_13 : decode cX10_totalOf 13 = .ok (.bipush 6, 2) := by decide +kernel
theorem dX10_totalOf_15 : decode cX10_totalOf 15 = .ok (.iaload, 1) := by decide +kernel
theorem dX10_totalOf_16 : decode cX10_totalOf 16 = .ok (.goto 4, 3) := by decide +kernel
theorem dX10_totalOf_19 : decode cX10_totalOf 19 = .ok (.iconst 0, 1) := by decide +kernel
theorem dX10_totalOf_20 : decode cX10_totalOf 20 = .ok (.istore_n 2, 1) := by decide +kernel
theorem dX10_totalOf_21 : decode cX10_totalOf 21 = .ok (.iconst 0, 1) := by decide +kernel
theorem dX10_totalOf_22 : decode cX10_totalOf 22 = .ok (.istore_n 3, 1) := by decide +kernel
theorem dX10_totalOf_23 : decode cX10_totalOf 23 = .ok (.iload_n 3, 1) := by decide +kernel
theorem dX10_totalOf_24 : decode cX10_totalOf 24 = .ok (.aload_n 0, 1) := by decide +kernel
theorem dX10_totalOf_25 : decode cX10_totalOf 25 = .ok (.getfield 44, 3) := by decide +kernel
theorem dX10_totalOf_28 : decode cX10_totalOf 28 = .ok (.iconst 1, 1) := by decide +kernel
theorem dX10_totalOf_29 : decode cX10_totalOf 29 = .ok (.iaload, 1) := by decide +kernel
theorem dX10_totalOf_30 : decode cX10_totalOf 30 = .ok (.if_icmp .ge 42, 3) := by decide +kernel
theorem dX10_totalOf_33 : decode cX10_totalOf 33 = .ok (.iload_n 2, 1) := by decide +kernel
theorem dX10_totalOf_34 : decode cX10_totalOf 34 = .ok (.aload_n 0, 1) := by decide +kernel
theorem dX10_totalOf_35 : decode cX10_totalOf 35 = .ok (.iload_n 3, 1) := by decide +kernel
theorem dX10_totalOf_36 : decode cX10_totalOf 36 = .ok (.iconst 0, 1) := by decide +kernel
theorem dX10_totalOf_37 : decode cX10_totalOf 37 = .ok (.invokevirtual 319, 3) := by decide +kernel
theorem dX10_totalOf_40 : decode cX10_totalOf 40 = .ok (.iload_n 1, 1) := by decide +kernel
theorem dX10_totalOf_41 : decode cX10_totalOf 41 = .ok (.if_icmp .ne 22, 3) := by decide +kernel
theorem dX10_totalOf_44 : decode cX10_totalOf 44 = .ok (.aload_n 0, 1) := by decide +kernel
theorem dX10_totalOf_45 : decode cX10_totalOf 45 = .ok (.iload_n 3, 1) := by decide +kernel
theorem dX10_totalOf_46 : decode cX10_totalOf 46 = .ok (.iconst 4, 1) := by decide +kernel
theorem dX10_totalOf_47 : decode cX10_totalOf 47 = .ok (.invokevirtual 319, 3) := by decide +kernel
theorem dX10_totalOf_50 : decode cX10_totalOf 50 = .ok (.iconst 2, 1) := by decide +kernel
theorem dX10_totalOf_51 : decode cX10_totalOf 51 = .ok (.if_icmp .eq 12, 3) := by decide +kernel
theorem dX10_totalOf_54 : decode cX10_totalOf 54 = .ok (.aload_n 0, 1) := by decide +kernel
theorem dX10_totalOf_55 : decode cX10_totalOf 55 = .ok (.iload_n 3, 1) := by decide +kernel
theorem dX10_totalOf_56 : decode cX10_totalOf 56 = .ok (.iconst 1, 1) := by decide +kernel
theorem dX10_totalOf_57 : decode cX10_totalOf 57 = .ok (.invokevirtual 319, 3) := by decide +kernel
theorem dX10_totalOf_60 : decode cX10_totalOf 60 = .ok (.goto 4, 3) := by decide +kernel
theorem dX10_totalOf_63 : decode cX10_totalOf 63 = .ok (.iconst 0, 1) := by decide +kernel
theorem dX10_totalOf_64 : decode cX10_totalOf 64 = .ok (.iadd, 1) := by decide +kernel
theorem dX10_totalOf_65 : decode cX10_totalOf 65 = .ok (.istore_n 2, 1) := by decide +kernel
theorem dX10_totalOf_66 : decode cX10_totalOf 66 = .ok (.iinc 3 1, 3) := by decide +kernel
theorem dX10_totalOf_69 : decode cX10_totalOf 69 = .ok (.goto (-46), 3) := by decide +kernel
theorem dX10_totalOf_72 : decode cX10_totalOf 72 = .ok (.iload_n 2, 1) := by decide +kernel
theorem dX10_totalOf_73 : decode cX10_totalOf 73 = .ok (.ireturn, 1) := by decide +kernel
abbrev m_X10_totalOf : MD := (yX10_totalOf, cX10_totalOf, 4, (some .int))

abbrev w_X10_totalOf (g : GT) (h0 h1 h2 : Nat) (v0_0 v0_1 v0_2 v0_3 v0_4 v0_5 v0_6 v0_7 v0_8 v0_9 v0_11 v0_12 v0_13 v0_14 v0_15 v0_16 v0_17 v0_18 v0_19 v0_20 v0_22 v0_23 v0_24 v0_25 v0_26 v0_27 v0_28 v0_29 v0_30 v0_31 v0_32 v0_33 v0_34 v0_35 v0_36 v0_37 : Value) (basic1 state2 : Nat → Int32) : va_W := [(h0, .inr (10, [v0_0, v0_1, v0_2, v0_3, v0_4, v0_5, v0_6, v0_7, v0_8, v0_9, .ref h1, v0_11, v0_12, v0_13, v0_14, v0_15, v0_16, v0_17, v0_18, v0_19, v0_20, .ref h2, v0_22, v0_23, v0_24, v0_25, v0_26, v0_27, v0_28, v0_29, v0_30, v0_31, v0_32, v0_33, v0_34, v0_35, v0_36, v0_37])), (h1, aI g 7 basic1), (h2, aI g 2524 state2)]
def f_X10_totalOf_b64 (F : Nat) (k23 : (Int32 × Int32 × Int32) → Option (Int32)) (basic1 state2 : Nat → Int32) (x1 x3 s0 s1 : Int32) : Option (Int32) :=
  k23 (x1, s1 + s0, x3 + 1)
def f_X10_totalOf_b63 (F : Nat) (k23 : (Int32 × Int32 × Int32) → Option (Int32)) (basic1 state2 : Nat → Int32) (x1 x3 s0 : Int32) : Option (Int32) :=
  f_X10_totalOf_b64 F k23 basic1 state2 x1 x3 0 s0
def f_X10_totalOf_h23 (F : Nat) (basic1 state2 : Nat → Int32) (k23 : (Int32 × Int32 × Int32) → Option (Int32)) (x1 x2 x3 : Int32) : Option (Int32) :=
  rd state2 2524 1 fun a1 =>
  if a1 ≤ x3 then
    some x2
  else
    bd1 (f_X10_ofTrip F x3 0 state2) fun r3 =>
    if r3 = x1 then
      bd1 (f_X10_ofTrip F x3 4 state2) fun r6 =>
      if r6 = 2 then
        f_X10_totalOf_b63 F k23 basic1 state2 x1 x3 x2
      else
        bd1 (f_X10_ofTrip F x3 1 state2) fun r9 =>
        f_X10_totalOf_b64 F k23 basic1 state2 x1 x3 r9 x2
    else
      f_X10_totalOf_b63 F k23 basic1 state2 x1 x3 x2
def f_X10_totalOf_L23 (F : Nat) (basic1 state2 : Nat → Int32) (z : Int32 × Int32 × Int32) : Option (Int32) := lp (fun k z => f_X10_totalOf_h23 F basic1 state2 k z.1 z.2.1 z.2.2) F z
def f_X10_totalOf_b20 (F : Nat) (basic1 state2 : Nat → Int32) (x1 s0 : Int32) : Option (Int32) :=
  f_X10_totalOf_L23 F basic1 state2 (x1, s0, 0)
def f_X10_totalOf (F : Nat) (p1 : Int32) (basic1 state2 : Nat → Int32) : Option (Int32) :=
  bd1 (f_X10_ofInvoice F p1 0 state2) fun r11 =>
  if 0 ≤ r11 then
    f_X10_totalOf_b20 F basic1 state2 p1 0
  else
    rd basic1 7 6 fun a14 =>
    f_X10_totalOf_b20 F basic1 state2 p1 a14
set_option maxHeartbeats 4000000 in
set_option maxRecDepth 100000 in
theorem c_X10_totalOf (l : Launch) (g : GT) (F : Nat) (h0 h1 h2 : Nat) (v0_0 v0_1 v0_2 v0_3 v0_4 v0_5 v0_6 v0_7 v0_8 v0_9 v0_11 v0_12 v0_13 v0_14 v0_15 v0_16 v0_17 v0_18 v0_19 v0_20 v0_22 v0_23 v0_24 v0_25 v0_26 v0_27 v0_28 v0_29 v0_30 v0_31 v0_32 v0_33 v0_34 v0_35 v0_36 v0_37 : Value) (p1 : Int32) (basic1 state2 : Nat → Int32) (r : Int32) (sz : Nat) (hf : f_X10_totalOf F p1 basic1 state2 = some r) : CI l m_X10_totalOf (rml 1 0 0) g (w_X10_totalOf g h0 h1 h2 v0_0 v0_1 v0_2 v0_3 v0_4 v0_5 v0_6 v0_7 v0_8 v0_9 v0_11 v0_12 v0_13 v0_14 v0_15 v0_16 v0_17 v0_18 v0_19 v0_20 v0_22 v0_23 v0_24 v0_25 v0_26 v0_27 v0_28 v0_29 v0_30 v0_31 v0_32 v0_33 v0_34 v0_35 v0_36 v0_37 basic1 state2) (fun _ => w_X10_totalOf g h0 h1 h2 v0_0 v0_1 v0_2 v0_3 v0_4 v0_5 v0_6 v0_7 v0_8 v0_9 v0_11 v0_12 v0_13 v0_14 v0_15 v0_16 v0_17 v0_18 v0_19 v0_20 v0_22 v0_23 v0_24 v0_25 v0_26 v0_27 v0_28 v0_29 v0_30 v0_31 v0_32 v0_33 v0_34 v0_35 v0_36 v0_37 basic1 state2) sz [.ref h0, .int p1] r := by
  refine en_i (by decide) (Nat.le_of_ble_eq_true rfl) (fun p e s m args below meth c A ls C w hl => ?_)
  have C : Cx p s m args meth c RX10 m_X10_totalOf g A := C
  have hx := C.1
  have hb : c.code = cX10_totalOf := C.2.1
  have hl : lv_has ls 4 [(0, .ref h0), (1, .int p1)] := hl
  obtain ⟨Q, hQ⟩ : ∃ Q, Q = QI below args s g A (fun _ => w_X10_totalOf g h0 h1 h2 v0_0 v0_1 v0_2 v0_3 v0_4 v0_5 v0_6 v0_7 v0_8 v0_9 v0_11 v0_12 v0_13 v0_14 v0_15 v0_16 v0_17 v0_18 v0_19 v0_20 v0_22 v0_23 v0_24 v0_25 v0_26 v0_27 v0_28 v0_29 v0_30 v0_31 v0_32 v0_33 v0_34 v0_35 v0_36 v0_37 basic1 state2) r 0 0 := ⟨_, rfl⟩
  suffices hW : W p l e (rml 1 0 0) s m args below meth c s.heap [] 0 0 Q (F0 m 0 ls []) from (by rw [hQ] at hW; exact hW)
  unfold f_X10_totalOf at hf
  have L23 : ∀ (z : Int32 × Int32 × Int32), f_X10_totalOf_L23 F basic1 state2 z = some r → ∀ (H : Heap) (locs : List Loc) (ls : Array Slot), Wd g A (w_X10_totalOf g h0 h1 h2 v0_0 v0_1 v0_2 v0_3 v0_4 v0_5 v0_6 v0_7 v0_8 v0_9 v0_11 v0_12 v0_13 v0_14 v0_15 v0_16 v0_17 v0_18 v0_19 v0_20 v0_22 v0_23 v0_24 v0_25 v0_26 v0_27 v0_28 v0_29 v0_30 v0_31 v0_32 v0_33 v0_34 v0_35 v0_36 v0_37 basic1 state2) s.heap H locs → lv_has ls 4 [(0, .ref h0), (1, .int z.1), (2, .int z.2.1), (3, .int z.2.2)] → W p l e (rml 1 0 0) s m args below meth c H locs 0 0 Q (F0 m 23 ls []) := by
    intro z hf
    refine lp_W (r := r) (fun (z : Int32 × Int32 × Int32) => ∀ (H : Heap) (locs : List Loc) (ls : Array Slot), Wd g A (w_X10_totalOf g h0 h1 h2 v0_0 v0_1 v0_2 v0_3 v0_4 v0_5 v0_6 v0_7 v0_8 v0_9 v0_11 v0_12 v0_13 v0_14 v0_15 v0_16 v0_17 v0_18 v0_19 v0_20 v0_22 v0_23 v0_24 v0_25 v0_26 v0_27 v0_28 v0_29 v0_30 v0_31 v0_32 v0_33 v0_34 v0_35 v0_36 v0_37 basic1 state2) s.heap H locs → lv_has ls 4 [(0, .ref h0), (1, .int z.1), (2, .int z.2.1), (3, .int z.2.2)] → W p l e (rml 1 0 0) s m args below meth c H locs 0 0 Q (F0 m 23 ls [])) (fun k23 z ih23 hf => ?_) F z hf
    obtain ⟨x1, x2, x3⟩ := z
    intro H locs ls w hl
    try dsimp only at hf w hl ⊢
    unfold f_X10_totalOf_h23 at hf
    have b64 : ∀ (x1 x3 s0 s1 : Int32) (H : Heap) (locs : List Loc) (ls : Array Slot), f_X10_totalOf_b64 F k23 basic1 state2 x1 x3 s0 s1 = some r → Wd g A (w_X10_totalOf g h0 h1 h2 v0_0 v0_1 v0_2 v0_3 v0_4 v0_5 v0_6 v0_7 v0_8 v0_9 v0_11 v0_12 v0_13 v0_14 v0_15 v0_16 v0_17 v0_18 v0_19 v0_20 v0_22 v0_23 v0_24 v0_25 v0_26 v0_27 v0_28 v0_29 v0_30 v0_31 v0_32 v0_33 v0_34 v0_35 v0_36 v0_37 basic1 state2) s.heap H locs → lv_has ls 4 [(0, .ref h0), (1, .int x1), (3, .int x3)] → W p l e (rml 1 0 0) s m args below meth c H locs 0 0 Q (F0 m 64 ls [.int s0, .int s1]) := by
      intro x1 x3 s0 s1 H locs ls hf w hl
      unfold f_X10_totalOf_b64 at hf
      refine lv_iadd hx hb dX10_totalOf_64 ?_
      refine lv_istore_n (lv' := [(2, .int (s1 + s0)), (0, .ref h0), (1, .int x1), (3, .int x3)]) hx hb dX10_totalOf_65 rfl hl (by decide) rfl (fun ls hl => ?_)
      refine lv_iinc (v := x3 + 1) (lv' := [(3, .int (x3 + 1)), (2, .int (s1 + s0)), (0, .ref h0), (1, .int x1)]) hx hb dX10_totalOf_66 hl (k := 3) rfl rfl (by decide) rfl (fun ls hl => ?_)
      refine lv_goto (tgt := 23) hx hb dX10_totalOf_69 (by decide) ?_
      exact ih23 (x1, s1 + s0, x3 + 1) hf _ _ _ w (lv_sub hl [2, 3, 1, 0] rfl)
    have b63 : ∀ (x1 x3 s0 : Int32) (H : Heap) (locs : List Loc) (ls : Array Slot), f_X10_totalOf_b63 F k23 basic1 state2 x1 x3 s0 = some r → Wd g A (w_X10_totalOf g h0 h1 h2 v0_0 v0_1 v0_2 v0_3 v0_4 v0_5 v0_6 v0_7 v0_8 v0_9 v0_11 v0_12 v0_13 v0_14 v0_15 v0_16 v0_17 v0_18 v0_19 v0_20 v0_22 v0_23 v0_24 v0_25 v0_26 v0_27 v0_28 v0_29 v0_30 v0_31 v0_32 v0_33 v0_34 v0_35 v0_36 v0_37 basic1 state2) s.heap H locs → lv_has ls 4 [(0, .ref h0), (1, .int x1), (3, .int x3)] → W p l e (rml 1 0 0) s m args below meth c H locs 0 0 Q (F0 m 63 ls [.int s0]) := by
      intro x1 x3 s0 H locs ls hf w hl
      unfold f_X10_totalOf_b63 at hf
      refine lv_iconst (v := 0) hx hb dX10_totalOf_63 (by decide) ?_
      exact b64 x1 x3 0 s0 _ _ _ hf w (lv_sub hl [0, 1, 2] rfl)
    refine lv_iload_n hx hb dX10_totalOf_23 rfl (lv_at hl 3 rfl) ?_
    refine lv_aload_n hx hb dX10_totalOf_24 rfl (lv_at hl 0 rfl) ?_
    refine g_X10_44 C w 0 rfl rfl dX10_totalOf_25 ?_
    refine lv_iconst (v := 1) hx hb dX10_totalOf_28 (by decide) ?_
    obtain ⟨a1, hia1, haa1, hf⟩ := rd_some hf
    refine ial C w 2 rfl hia1 haa1 dX10_totalOf_29 ?_
    refine lv_icmp_ge (tgt := 72) hx hb dX10_totalOf_30 (by decide) (fun c2 => ?_) (fun c2 => ?_)
    · replace hf := it_t c2 hf
      refine lv_iload_n hx hb dX10_totalOf_72 rfl (lv_at hl 2 rfl) ?_
      obtain e1 := tp1 hf
      rw [hQ]
      exact rt_i C w rfl (fun _ => 0) rfl e1 dX10_totalOf_73
    · replace hf := it_f c2 hf
      refine lv_iload_n hx hb dX10_totalOf_33 rfl (lv_at hl 2 rfl) ?_
      refine lv_aload_n hx hb dX10_totalOf_34 rfl (lv_at hl 0 rfl) ?_
      refine lv_iload_n hx hb dX10_totalOf_35 rfl (lv_at hl 3 rfl) ?_
      refine lv_iconst (v := 0) hx hb dX10_totalOf_36 (by decide) ?_
      obtain ⟨r3, hc4, hf⟩ := bd1_some hf
      refine ca_iV C w (wn := fun _ => w_X10_totalOf g h0 h1 h2 v0_0 v0_1 v0_2 v0_3 v0_4 v0_5 v0_6 v0_7 v0_8 v0_9 v0_11 v0_12 v0_13 v0_14 v0_15 v0_16 v0_17 v0_18 v0_19 v0_20 v0_22 v0_23 v0_24 v0_25 v0_26 v0_27 v0_28 v0_29 v0_30 v0_31 v0_32 v0_33 v0_34 v0_35 v0_36 v0_37 basic1 state2) (pm_k [true, false, true] rfl rfl (fun _ => Nat.le_of_ble_eq_true rfl) (fun _ => rfl)) (c_X10_ofTrip l g F h0 h2 v0_0 v0_1 v0_2 v0_3 v0_4 v0_5 v0_6 v0_7 v0_8 v0_9 (.ref h1) v0_11 v0_12 v0_13 v0_14 v0_15 v0_16 v0_17 v0_18 v0_19 v0_20 v0_22 v0_23 v0_24 v0_25 v0_26 v0_27 v0_28 v0_29 v0_30 v0_31 v0_32 v0_33 v0_34 v0_35 v0_36 v0_37 x3 0 state2 r3 _ hc4) k_X10_319 (rm_le (by decide) (by decide)) 0 10 rfl rfl rfl rfl hl.1 rfl (Nat.le_of_ble_eq_true rfl) dX10_totalOf_37 ⟨Nat.le_of_ble_eq_true rfl, Nat.le_of_ble_eq_true rfl⟩ (cells2 := 0) (slots2 := 0) ⟨rfl, rfl⟩ (fun _ H locs w => ?_)
      refine lv_iload_n hx hb dX10_totalOf_40 rfl (lv_at hl 1 rfl) ?_
      refine lv_icmp_ne (tgt := 63) hx hb dX10_totalOf_41 (by decide) (fun c5 => ?_) (fun c5 => ?_)
      · replace hf := it_f c5 hf
        exact b63 x1 x3 x2 _ _ _ hf w (lv_sub hl [0, 1, 3] rfl)
      · replace hf := it_t c5 hf
        refine lv_aload_n hx hb dX10_totalOf_44 rfl (lv_at hl 0 rfl) ?_
        refine lv_iload_n hx hb dX10_totalOf_45 rfl (lv_at hl 3 rfl) ?_
        refine lv_iconst (v := 4) hx hb dX10_totalOf_46 (by decide) ?_
        obtain ⟨r6, hc7, hf⟩ := bd1_some hf
        refine ca_iV C w (wn := fun _ => w_X10_totalOf g h0 h1 h2 v0_0 v0_1 v0_2 v0_3 v0_4 v0_5 v0_6 v0_7 v0_8 v0_9 v0_11 v0_12 v0_13 v0_14 v0_15 v0_16 v0_17 v0_18 v0_19 v0_20 v0_22 v0_23 v0_24 v0_25 v0_26 v0_27 v0_28 v0_29 v0_30 v0_31 v0_32 v0_33 v0_34 v0_35 v0_36 v0_37 basic1 state2) (pm_k [true, false, true] rfl rfl (fun _ => Nat.le_of_ble_eq_true rfl) (fun _ => rfl)) (c_X10_ofTrip l g F h0 h2 v0_0 v0_1 v0_2 v0_3 v0_4 v0_5 v0_6 v0_7 v0_8 v0_9 (.ref h1) v0_11 v0_12 v0_13 v0_14 v0_15 v0_16 v0_17 v0_18 v0_19 v0_20 v0_22 v0_23 v0_24 v0_25 v0_26 v0_27 v0_28 v0_29 v0_30 v0_31 v0_32 v0_33 v0_34 v0_35 v0_36 v0_37 x3 4 state2 r6 _ hc7) k_X10_319 (rm_le (by decide) (by decide)) 0 10 rfl rfl rfl rfl hl.1 rfl (Nat.le_of_ble_eq_true rfl) dX10_totalOf_47 ⟨Nat.le_of_ble_eq_true rfl, Nat.le_of_ble_eq_true rfl⟩ (cells2 := 0) (slots2 := 0) ⟨rfl, rfl⟩ (fun _ H locs w => ?_)
        refine lv_iconst (v := 2) hx hb dX10_totalOf_50 (by decide) ?_
        refine lv_icmp_eq (tgt := 63) hx hb dX10_totalOf_51 (by decide) (fun c8 => ?_) (fun c8 => ?_)
        · replace hf := it_t c8 hf
          exact b63 x1 x3 x2 _ _ _ hf w (lv_sub hl [0, 1, 3] rfl)
        · replace hf := it_f c8 hf
          refine lv_aload_n hx hb dX10_totalOf_54 rfl (lv_at hl 0 rfl) ?_
          refine lv_iload_n hx hb dX10_totalOf_55 rfl (lv_at hl 3 rfl) ?_
          refine lv_iconst (v := 1) hx hb dX10_totalOf_56 (by decide) ?_
          obtain ⟨r9, hc10, hf⟩ := bd1_some hf
          refine ca_iV C w (wn := fun _ => w_X10_totalOf g h0 h1 h2 v0_0 v0_1 v0_2 v0_3 v0_4 v0_5 v0_6 v0_7 v0_8 v0_9 v0_11 v0_12 v0_13 v0_14 v0_15 v0_16 v0_17 v0_18 v0_19 v0_20 v0_22 v0_23 v0_24 v0_25 v0_26 v0_27 v0_28 v0_29 v0_30 v0_31 v0_32 v0_33 v0_34 v0_35 v0_36 v0_37 basic1 state2) (pm_k [true, false, true] rfl rfl (fun _ => Nat.le_of_ble_eq_true rfl) (fun _ => rfl)) (c_X10_ofTrip l g F h0 h2 v0_0 v0_1 v0_2 v0_3 v0_4 v0_5 v0_6 v0_7 v0_8 v0_9 (.ref h1) v0_11 v0_12 v0_13 v0_14 v0_15 v0_16 v0_17 v0_18 v0_19 v0_20 v0_22 v0_23 v0_24 v0_25 v0_26 v0_27 v0_28 v0_29 v0_30 v0_31 v0_32 v0_33 v0_34 v0_35 v0_36 v0_37 x3 1 state2 r9 _ hc10) k_X10_319 (rm_le (by decide) (by decide)) 0 10 rfl rfl rfl rfl hl.1 rfl (Nat.le_of_ble_eq_true rfl) dX10_totalOf_57 ⟨Nat.le_of_ble_eq_true rfl, Nat.le_of_ble_eq_true rfl⟩ (cells2 := 0) (slots2 := 0) ⟨rfl, rfl⟩ (fun _ H locs w => ?_)
          refine lv_goto (tgt := 64) hx hb dX10_totalOf_60 (by decide) ?_
          exact b64 x1 x3 r9 x2 _ _ _ hf w (lv_sub hl [0, 1, 3] rfl)
  have b20 : ∀ (x1 s0 : Int32) (H : Heap) (locs : List Loc) (ls : Array Slot), f_X10_totalOf_b20 F basic1 state2 x1 s0 = some r → Wd g A (w_X10_totalOf g h0 h1 h2 v0_0 v0_1 v0_2 v0_3 v0_4 v0_5 v0_6 v0_7 v0_8 v0_9 v0_11 v0_12 v0_13 v0_14 v0_15 v0_16 v0_17 v0_18 v0_19 v0_20 v0_22 v0_23 v0_24 v0_25 v0_26 v0_27 v0_28 v0_29 v0_30 v0_31 v0_32 v0_33 v0_34 v0_35 v0_36 v0_37 basic1 state2) s.heap H locs → lv_has ls 4 [(0, .ref h0), (1, .int x1)] → W p l e (rml 1 0 0) s m args below meth c H locs 0 0 Q (F0 m 20 ls [.int s0]) := by
    intro x1 s0 H locs ls hf w hl
    unfold f_X10_totalOf_b20 at hf
    refine lv_istore_n (lv' := [(2, .int s0), (0, .ref h0), (1, .int x1)]) hx hb dX10_totalOf_20 rfl hl (by decide) rfl (fun ls hl => ?_)
    refine lv_iconst (v := 0) hx hb dX10_totalOf_21 (by decide) ?_
    refine lv_istore_n (lv' := [(3, .int 0), (2, .int s0), (0, .ref h0), (1, .int x1)]) hx hb dX10_totalOf_22 rfl hl (by decide) rfl (fun ls hl => ?_)
    exact L23 (x1, s0, 0) hf _ _ _ w (lv_sub hl [2, 3, 1, 0] rfl)
  refine lv_aload_n hx hb dX10_totalOf_0 rfl (lv_at hl 0 rfl) ?_
  refine lv_iload_n hx hb dX10_totalOf_1 rfl (lv_at hl 1 rfl) ?_
  refine lv_iconst (v := 0) hx hb dX10_totalOf_2 (by decide) ?_
  obtain ⟨r11, hc12, hf⟩ := bd1_some hf
  refine ca_iV C w (wn := fun _ => w_X10_totalOf g h0 h1 h2 v0_0 v0_1 v0_2 v0_3 v0_4 v0_5 v0_6 v0_7 v0_8 v0_9 v0_11 v0_12 v0_13 v0_14 v0_15 v0_16 v0_17 v0_18 v0_19 v0_20 v0_22 v0_23 v0_24 v0_25 v0_26 v0_27 v0_28 v0_29 v0_30 v0_31 v0_32 v0_33 v0_34 v0_35 v0_36 v0_37 basic1 state2) (pm_k [true, false, true] rfl rfl (fun _ => Nat.le_of_ble_eq_true rfl) (fun _ => rfl)) (c_X10_ofInvoice l g F h0 h2 v0_0 v0_1 v0_2 v0_3 v0_4 v0_5 v0_6 v0_7 v0_8 v0_9 (.ref h1) v0_11 v0_12 v0_13 v0_14 v0_15 v0_16 v0_17 v0_18 v0_19 v0_20 v0_22 v0_23 v0_24 v0_25 v0_26 v0_27 v0_28 v0_29 v0_30 v0_31 v0_32 v0_33 v0_34 v0_35 v0_36 v0_37 p1 0 state2 r11 _ hc12) k_X10_328 (rm_le (by decide) (by decide)) 0 10 rfl rfl rfl rfl hl.1 rfl (Nat.le_of_ble_eq_true rfl) dX10_totalOf_3 ⟨Nat.le_of_ble_eq_true rfl, Nat.le_of_ble_eq_true rfl⟩ (cells2 := 0) (slots2 := 0) ⟨rfl, rfl⟩ (fun _ H locs w => ?_)
  refine lv_if_ge (tgt := 19) hx hb dX10_totalOf_6 (by decide) (fun c13 => ?_) (fun c13 => ?_)
  · replace hf := it_t c13 hf
    refine lv_iconst (v := 0) hx hb dX10_totalOf_19 (by decide) ?_
    exact b20 p1 0 _ _ _ hf w (lv_sub hl [0, 1] rfl)
  · replace hf := it_f c13 hf
    refine lv_aload_n hx hb dX10_totalOf_9 rfl (lv_at hl 0 rfl) ?_
    refine g_X10_13 C w 0 rfl rfl dX10_totalOf_10 ?_
    refine lv_bipush (v := 6) hx hb dX10_totalOf_13 (by decide) ?_
    obtain ⟨a14, hia14, haa14, hf⟩ := rd_some hf
    refine ial C w 1 rfl hia14 haa14 dX10_totalOf_15 ?_
    refine lv_goto (tgt := 20) hx hb dX10_totalOf_16 (by decide) ?_
    exact b20 p1 a14 _ _ _ hf w (lv_sub hl [0, 1] rfl)

theorem dX10_balanceOf_0 : decode cX10_balanceOf 0 = .ok (.aload_n 0, 1) := by decide +kernel
theorem dX10_balanceOf_1 : decode cX10_balanceOf 1 = .ok (.iload_n 1, 1) := by decide +kernel
theorem dX10_balanceOf_2 : decode cX10_balanceOf 2 = .ok (.invokevirtual 331, 3) := by decide +kernel
theorem dX10_balanceOf_5 : decode cX10_balanceOf 5 = .ok (.aload_n 0, 1) := by decide +kernel
theorem dX10_balanceOf_6 : decode cX10_balanceOf 6 = .ok (.iload_n 1, 1) := by decide +kernel
theorem dX10_balanceOf_7 : decode cX10_balanceOf 7 = .ok (.iconst 2, 1) := by decide +kernel
theorem dX10_balanceOf_8 : decode cX10_balanceOf 8 = .ok (.invokevirtual 328, 3) := by decide +kernel
theorem dX10_balanceOf_11 : decode cX10_balanceOf 11 = .ok (.isub, 1) := by decide +kernel
theorem dX10_balanceOf_12 : decode cX10_balanceOf 12 = .ok (.ireturn, 1) := by decide +kernel
abbrev m_X10_balanceOf : MD := (yX10_balanceOf, cX10_balanceOf, 2, (some .int))
theorem q_1679 : Cond.code yX10_totalOf cX10_totalOf 4 (some .int) ∈ TS := ts_t 1679 (by decide +kernel) (by decide +kernel)
theorem q_1676 : Cond.methodLink RX10 331 yX10_totalOf ∈ TS := ts_t 1676 (by decide +kernel) (by decide +kernel)
theorem q_1678 : Cond.instanceMethod yX10_totalOf ∈ TS := ts_t 1678 (by decide +kernel) (by decide +kernel)
theorem qs_128 : Cond.selects yX10_totalOf.cls yX10_totalOf yX10_totalOf ∈ TS := ts_s 128 (by decide +kernel) (by decide +kernel)
theorem k_X10_331 : LkV RX10 331 m_X10_totalOf 1 := ⟨q_1676, q_1678, qs_128, ⟨q_11, q_1679, by decide, by decide, by decide +kernel⟩⟩
abbrev w_X10_balanceOf (g : GT) (h0 h1 h2 : Nat) (v0_0 v0_1 v0_2 v0_3 v0_4 v0_5 v0_6 v0_7 v0_8 v0_9 v0_11 v0_12 v0_13 v0_14 v0_15 v0_16 v0_17 v0_18 v0_19 v0_20 v0_22 v0_23 v0_24 v0_25 v0_26 v0_27 v0_28 v0_29 v0_30 v0_31 v0_32 v0_33 v0_34 v0_35 v0_36 v0_37 : Value) (basic1 state2 : Nat → Int32) : va_W := [(h0, .inr (10, [v0_0, v0_1, v0_2, v0_3, v0_4, v0_5, v0_6, v0_7, v0_8, v0_9, .ref h1, v0_11, v0_12, v0_13, v0_14, v0_15, v0_16, v0_17, v0_18, v0_19, v0_20, .ref h2, v0_22, v0_23, v0_24, v0_25, v0_26, v0_27, v0_28, v0_29, v0_30, v0_31, v0_32, v0_33, v0_34, v0_35, v0_36, v0_37])), (h1, aI g 7 basic1), (h2, aI g 2524 state2)]
def f_X10_balanceOf (F : Nat) (p1 : Int32) (basic1 state2 : Nat → Int32) : Option (Int32) :=
  bd1 (f_X10_totalOf F p1 basic1 state2) fun r1 =>
  bd1 (f_X10_ofInvoice F p1 2 state2) fun r3 =>
  some (r1 - r3)
set_option maxHeartbeats 4000000 in
set_option maxRecDepth 100000 in
theorem c_X10_balanceOf (l : Launch) (g : GT) (F : Nat) (h0 h1 h2 : Nat) (v0_0 v0_1 v0_2 v0_3 v0_4 v0_5 v0_6 v0_7 v0_8 v0_9 v0_11 v0_12 v0_13 v0_14 v0_15 v0_16 v0_17 v0_18 v0_19 v0_20 v0_22 v0_23 v0_24 v0_25 v0_26 v0_27 v0_28 v0_29 v0_30 v0_31 v0_32 v0_33 v0_34 v0_35 v0_36 v0_37 : Value) (p1 : Int32) (basic1 state2 : Nat → Int32) (r : Int32) (sz : Nat) (hf : f_X10_balanceOf F p1 basic1 state2 = some r) : CI l m_X10_balanceOf (rml 2 0 0) g (w_X10_balanceOf g h0 h1 h2 v0_0 v0_1 v0_2 v0_3 v0_4 v0_5 v0_6 v0_7 v0_8 v0_9 v0_11 v0_12 v0_13 v0_14 v0_15 v0_16 v0_17 v0_18 v0_19 v0_20 v0_22 v0_23 v0_24 v0_25 v0_26 v0_27 v0_28 v0_29 v0_30 v0_31 v0_32 v0_33 v0_34 v0_35 v0_36 v0_37 basic1 state2) (fun _ => w_X10_balanceOf g h0 h1 h2 v0_0 v0_1 v0_2 v0_3 v0_4 v0_5 v0_6 v0_7 v0_8 v0_9 v0_11 v0_12 v0_13 v0_14 v0_15 v0_16 v0_17 v0_18 v0_19 v0_20 v0_22 v0_23 v0_24 v0_25 v0_26 v0_27 v0_28 v0_29 v0_30 v0_31 v0_32 v0_33 v0_34 v0_35 v0_36 v0_37 basic1 state2) sz [.ref h0, .int p1] r := by
  refine en_i (by decide) (Nat.le_of_ble_eq_true rfl) (fun p e s m args below meth c A ls C w hl => ?_)
  have C : Cx p s m args meth c RX10 m_X10_balanceOf g A := C
  have hx := C.1
  have hb : c.code = cX10_balanceOf := C.2.1
  have hl : lv_has ls 2 [(0, .ref h0), (1, .int p1)] := hl
  obtain ⟨Q, hQ⟩ : ∃ Q, Q = QI below args s g A (fun _ => w_X10_balanceOf g h0 h1 h2 v0_0 v0_1 v0_2 v0_3 v0_4 v0_5 v0_6 v0_7 v0_8 v0_9 v0_11 v0_12 v0_13 v0_14 v0_15 v0_16 v0_17 v0_18 v0_19 v0_20 v0_22 v0_23 v0_24 v0_25 v0_26 v0_27 v0_28 v0_29 v0_30 v0_31 v0_32 v0_33 v0_34 v0_35 v0_36 v0_37 basic1 state2) r 0 0 := ⟨_, rfl⟩
  suffices hW : W p l e (rml 2 0 0) s m args below meth c s.heap [] 0 0 Q (F0 m 0 ls []) from (by rw [hQ] at hW; exact hW)
  unfold f_X10_balanceOf at hf
  refine lv_aload_n hx hb dX10_balanceOf_0 rfl (lv_at hl 0 rfl) ?_
  refine lv_iload_n hx hb dX10_balanceOf_1 rfl (lv_at hl 1 rfl) ?_
  obtain ⟨r1, hc2, hf⟩ := bd1_some hf
  refine ca_iV C w (wn := fun _ => w_X10_balanceOf g h0 h1 h2 v0_0 v0_1 v0_2 v0_3 v0_4 v0_5 v0_6 v0_7 v0_8 v0_9 v0_11 v0_12 v0_13 v0_14 v0_15 v0_16 v0_17 v0_18 v0_19 v0_20 v0_22 v0_23 v0_24 v0_25 v0_26 v0_27 v0_28 v0_29 v0_30 v0_31 v0_32 v0_33 v0_34 v0_35 v0_36 v0_37 basic1 state2) (pm_k [true, true, true] rfl rfl (fun _ => Nat.le_of_ble_eq_true rfl) (fun _ => rfl)) (c_X10_totalOf l g F h0 h1 h2 v0_0 v0_1 v0_2 v0_3 v0_4 v0_5 v0_6 v0_7 v0_8 v0_9 v0_11 v0_12 v0_13 v0_14 v0_15 v0_16 v0_17 v0_18 v0_19 v0_20 v0_22 v0_23 v0_24 v0_25 v0_26 v0_27 v0_28 v0_29 v0_30 v0_31 v0_32 v0_33 v0_34 v0_35 v0_36 v0_37 p1 basic1 state2 r1 _ hc2) k_X10_331 (rm_le (by decide) (by decide)) 0 10 rfl rfl rfl rfl hl.1 rfl (Nat.le_of_ble_eq_true rfl) dX10_balanceOf_2 ⟨Nat.le_of_ble_eq_true rfl, Nat.le_of_ble_eq_true rfl⟩ (cells2 := 0) (slots2 := 0) ⟨rfl, rfl⟩ (fun _ H locs w => ?_)
  refine lv_aload_n hx hb dX10_balanceOf_5 rfl (lv_at hl 0 rfl) ?_
  refine lv_iload_n hx hb dX10_balanceOf_6 rfl (lv_at hl 1 rfl) ?_
  refine lv_iconst (v := 2) hx hb dX10_balanceOf_7 (by decide) ?_
  obtain ⟨r3, hc4, hf⟩ := bd1_some hf
  refine ca_iV C w (wn := fun _ => w_X10_balanceOf g h0 h1 h2 v0_0 v0_1 v0_2 v0_3 v0_4 v0_5 v0_6 v0_7 v0_8 v0_9 v0_11 v0_12 v0_13 v0_14 v0_15 v0_16 v0_17 v0_18 v0_19 v0_20 v0_22 v0_23 v0_24 v0_25 v0_26 v0_27 v0_28 v0_29 v0_30 v0_31 v0_32 v0_33 v0_34 v0_35 v0_36 v0_37 basic1 state2) (pm_k [true, false, true] rfl rfl (fun _ => Nat.le_of_ble_eq_true rfl) (fun _ => rfl)) (c_X10_ofInvoice l g F h0 h2 v0_0 v0_1 v0_2 v0_3 v0_4 v0_5 v0_6 v0_7 v0_8 v0_9 (.ref h1) v0_11 v0_12 v0_13 v0_14 v0_15 v0_16 v0_17 v0_18 v0_19 v0_20 v0_22 v0_23 v0_24 v0_25 v0_26 v0_27 v0_28 v0_29 v0_30 v0_31 v0_32 v0_33 v0_34 v0_35 v0_36 v0_37 p1 2 state2 r3 _ hc4) k_X10_328 (rm_le (by decide) (by decide)) 0 10 rfl rfl rfl rfl hl.1 rfl (Nat.le_of_ble_eq_true rfl) dX10_balanceOf_8 ⟨Nat.le_of_ble_eq_true rfl, Nat.le_of_ble_eq_true rfl⟩ (cells2 := 0) (slots2 := 0) ⟨rfl, rfl⟩ (fun _ H locs w => ?_)
  refine lv_isub hx hb dX10_balanceOf_11 ?_
  obtain e1 := tp1 hf
  rw [hQ]
  exact rt_i C w rfl (fun _ => 0) rfl e1 dX10_balanceOf_12

theorem dX10_invoiceTotal_0 : decode cX10_invoiceTotal 0 = .ok (.aload_n 0, 1) := by decide +kernel
theorem dX10_invoiceTotal_1 : decode cX10_invoiceTotal 1 = .ok (.iconst 0, 1) := by decide +kernel
theorem dX10_invoiceTotal_2 : decode cX10_invoiceTotal 2 = .ok (.putfield 84, 3) := by decide +kernel
theorem dX10_invoiceTotal_5 : decode cX10_invoiceTotal 5 = .ok (.aload_n 0, 1) := by decide +kernel
theorem dX10_invoiceTotal_6 : decode cX10_invoiceTotal 6 = .ok (.iload_n 1, 1) := by decide +kernel
theorem dX10_invoiceTotal_7 : decode cX10_invoiceTotal 7 = .ok (.invokevirtual 325, 3) := by decide +kernel
theorem dX10_invoiceTotal_10 : decode cX10_invoiceTotal 10 = .ok (.ifCond .eq 11, 3) := by decide +kernel
theorem dX10_invoiceTotal_13 : decode cX10_invoiceTotal 13 = .ok (.aload_n 0, 1) := by decide +kernel
theorem dX10_invoiceTotal_14 : decode cX10_invoiceTotal 14 = .ok (.iload_n 1, 1) := by decide +kernel
theorem dX10_invoiceTotal_15 : decode cX10_invoiceTotal 15 = .ok (.invokevirtual 331, 3) := by decide +kernel
theorem dX10_invoiceTotal_18 : decode cX10_invoiceTotal 18 = .ok (.goto 8, 3) := by decide +kernel
theorem dX10_invoiceTotal_21 : decode cX10_invoiceTotal 21 = .ok (.aload_n 0, 1) := by decide +kernel
theorem dX10_invoiceTotal_22 : decode cX10_invoiceTotal 22 = .ok (.iconst 1, 1) := by decide +kernel
theorem dX10_invoiceTotal_23 : decode cX10_invoiceTotal 23 = .ok (.invokevirtual 202, 3) := by decide +kernel
theorem dX10_invoiceTotal_26 : decode cX10_invoiceTotal 26 = .ok (.ireturn, 1) := by decide +kernel
abbrev m_X10_invoiceTotal : MD := (yX10_invoiceTotal, cX10_invoiceTotal, 2, (some .int))

abbrev w_X10_invoiceTotal (g : GT) (h0 h1 h2 : Nat) (v0_1 v0_2 v0_3 v0_4 v0_5 v0_6 v0_7 v0_8 v0_9 v0_11 v0_12 v0_13 v0_14 v0_15 v0_16 v0_17 v0_18 v0_19 v0_20 v0_22 v0_23 v0_24 v0_25 v0_26 v0_27 v0_28 v0_29 v0_30 v0_31 v0_32 v0_33 v0_34 v0_35 v0_36 v0_37 : Value) (thrown0 : Int32) (basic1 state2 : Nat → Int32) : va_W := [(h0, .inr (10, [.int thrown0, v0_1, v0_2, v0_3, v0_4, v0_5, v0_6, v0_7, v0_8, v0_9, .ref h1, v0_11, v0_12, v0_13, v0_14, v0_15, v0_16, v0_17, v0_18, v0_19, v0_20, .ref h2, v0_22, v0_23, v0_24, v0_25, v0_26, v0_27, v0_28, v0_29, v0_30, v0_31, v0_32, v0_33, v0_34, v0_35, v0_36, v0_37])), (h1, aI g 7 basic1), (h2, aI g 2524 state2)]
def f_X10_invoiceTotal_b26 (F : Nat) (basic1 state2 : Nat → Int32) (s0 thrown0 : Int32) : Option (Int32 × Int32) :=
  some (s0, thrown0)
def f_X10_invoiceTotal (F : Nat) (p1 thrown0 : Int32) (basic1 state2 : Nat → Int32) : Option (Int32 × Int32) :=
  bd1 (f_X10_isInvoice F p1 state2) fun r1 =>
  if r1 = 0 then
    bd2 (f_X10_fail F 1 0) fun r4 o5 =>
    f_X10_invoiceTotal_b26 F basic1 state2 r4 o5
  else
    bd1 (f_X10_totalOf F p1 basic1 state2) fun r7 =>
    f_X10_invoiceTotal_b26 F basic1 state2 r7 0
set_option maxHeartbeats 4000000 in
set_option maxRecDepth 100000 in
theorem c_X10_invoiceTotal (l : Launch) (g : GT) (F : Nat) (h0 h1 h2 : Nat) (v0_1 v0_2 v0_3 v0_4 v0_5 v0_6 v0_7 v0_8 v0_9 v0_11 v0_12 v0_13 v0_14 v0_15 v0_16 v0_17 v0_18 v0_19 v0_20 v0_22 v0_23 v0_24 v0_25 v0_26 v0_27 v0_28 v0_29 v0_30 v0_31 v0_32 v0_33 v0_34 v0_35 v0_36 v0_37 : Value) (p1 thrown0 : Int32) (basic1 state2 : Nat → Int32) (r o_thrown0 : Int32) (sz : Nat) (hf : f_X10_invoiceTotal F p1 thrown0 basic1 state2 = some (r, o_thrown0)) : CI l m_X10_invoiceTotal (rml 2 0 0) g (w_X10_invoiceTotal g h0 h1 h2 v0_1 v0_2 v0_3 v0_4 v0_5 v0_6 v0_7 v0_8 v0_9 v0_11 v0_12 v0_13 v0_14 v0_15 v0_16 v0_17 v0_18 v0_19 v0_20 v0_22 v0_23 v0_24 v0_25 v0_26 v0_27 v0_28 v0_29 v0_30 v0_31 v0_32 v0_33 v0_34 v0_35 v0_36 v0_37 thrown0 basic1 state2) (fun _ => w_X10_invoiceTotal g h0 h1 h2 v0_1 v0_2 v0_3 v0_4 v0_5 v0_6 v0_7 v0_8 v0_9 v0_11 v0_12 v0_13 v0_14 v0_15 v0_16 v0_17 v0_18 v0_19 v0_20 v0_22 v0_23 v0_24 v0_25 v0_26 v0_27 v0_28 v0_29 v0_30 v0_31 v0_32 v0_33 v0_34 v0_35 v0_36 v0_37 o_thrown0 basic1 state2) sz [.ref h0, .int p1] r := by
  refine en_i (by decide) (Nat.le_of_ble_eq_true rfl) (fun p e s m args below meth c A ls C w hl => ?_)
  have C : Cx p s m args meth c RX10 m_X10_invoiceTotal g A := C
  have hx := C.1
  have hb : c.code = cX10_invoiceTotal := C.2.1
  have hl : lv_has ls 2 [(0, .ref h0), (1, .int p1)] := hl
  obtain ⟨Q, hQ⟩ : ∃ Q, Q = QI below args s g A (fun _ => w_X10_invoiceTotal g h0 h1 h2 v0_1 v0_2 v0_3 v0_4 v0_5 v0_6 v0_7 v0_8 v0_9 v0_11 v0_12 v0_13 v0_14 v0_15 v0_16 v0_17 v0_18 v0_19 v0_20 v0_22 v0_23 v0_24 v0_25 v0_26 v0_27 v0_28 v0_29 v0_30 v0_31 v0_32 v0_33 v0_34 v0_35 v0_36 v0_37 o_thrown0 basic1 state2) r 0 0 := ⟨_, rfl⟩
  suffices hW : W p l e (rml 2 0 0) s m args below meth c s.heap [] 0 0 Q (F0 m 0 ls []) from (by rw [hQ] at hW; exact hW)
  unfold f_X10_invoiceTotal at hf
  have b26 : ∀ (s0 thrown0 : Int32) (H : Heap) (locs : List Loc) (ls : Array Slot), f_X10_invoiceTotal_b26 F basic1 state2 s0 thrown0 = some (r, o_thrown0) → Wd g A (w_X10_invoiceTotal g h0 h1 h2 v0_1 v0_2 v0_3 v0_4 v0_5 v0_6 v0_7 v0_8 v0_9 v0_11 v0_12 v0_13 v0_14 v0_15 v0_16 v0_17 v0_18 v0_19 v0_20 v0_22 v0_23 v0_24 v0_25 v0_26 v0_27 v0_28 v0_29 v0_30 v0_31 v0_32 v0_33 v0_34 v0_35 v0_36 v0_37 thrown0 basic1 state2) s.heap H locs → lv_has ls 2 [] → W p l e (rml 2 0 0) s m args below meth c H locs 0 0 Q (F0 m 26 ls [.int s0]) := by
    intro s0 thrown0 H locs ls hf w hl
    unfold f_X10_invoiceTotal_b26 at hf
    obtain ⟨e1, e2⟩ := tp2 hf
    rw [hQ]
    exact rt_i C w rfl (fun _ => 0) (by rw [← e2]) e1 dX10_invoiceTotal_26
  refine lv_aload_n hx hb dX10_invoiceTotal_0 rfl (lv_at hl 0 rfl) ?_
  refine lv_iconst (v := 0) hx hb dX10_invoiceTotal_1 (by decide) ?_
  refine p_X10_84 C w 0 rfl (Nat.le_of_ble_eq_true rfl) (ws2 := w_X10_invoiceTotal g h0 h1 h2 v0_1 v0_2 v0_3 v0_4 v0_5 v0_6 v0_7 v0_8 v0_9 v0_11 v0_12 v0_13 v0_14 v0_15 v0_16 v0_17 v0_18 v0_19 v0_20 v0_22 v0_23 v0_24 v0_25 v0_26 v0_27 v0_28 v0_29 v0_30 v0_31 v0_32 v0_33 v0_34 v0_35 v0_36 v0_37 0 basic1 state2) rfl dX10_invoiceTotal_2 (fun H locs w => ?_)
  refine lv_aload_n hx hb dX10_invoiceTotal_5 rfl (lv_at hl 0 rfl) ?_
  refine lv_iload_n hx hb dX10_invoiceTotal_6 rfl (lv_at hl 1 rfl) ?_
  obtain ⟨r1, hc2, hf⟩ := bd1_some hf
  refine ca_iV C w (wn := fun _ => w_X10_invoiceTotal g h0 h1 h2 v0_1 v0_2 v0_3 v0_4 v0_5 v0_6 v0_7 v0_8 v0_9 v0_11 v0_12 v0_13 v0_14 v0_15 v0_16 v0_17 v0_18 v0_19 v0_20 v0_22 v0_23 v0_24 v0_25 v0_26 v0_27 v0_28 v0_29 v0_30 v0_31 v0_32 v0_33 v0_34 v0_35 v0_36 v0_37 0 basic1 state2) (pm_k [true, false, true] rfl rfl (fun _ => Nat.le_of_ble_eq_true rfl) (fun _ => rfl)) (c_X10_isInvoice l g F h0 h2 (.int 0) v0_1 v0_2 v0_3 v0_4 v0_5 v0_6 v0_7 v0_8 v0_9 (.ref h1) v0_11 v0_12 v0_13 v0_14 v0_15 v0_16 v0_17 v0_18 v0_19 v0_20 v0_22 v0_23 v0_24 v0_25 v0_26 v0_27 v0_28 v0_29 v0_30 v0_31 v0_32 v0_33 v0_34 v0_35 v0_36 v0_37 p1 state2 r1 _ hc2) k_X10_325 (rm_le (by decide) (by decide)) 0 10 rfl rfl rfl rfl hl.1 rfl (Nat.le_of_ble_eq_true rfl) dX10_invoiceTotal_7 ⟨Nat.le_of_ble_eq_true rfl, Nat.le_of_ble_eq_true rfl⟩ (cells2 := 0) (slots2 := 0) ⟨rfl, rfl⟩ (fun _ H locs w => ?_)
  refine lv_if_eq (tgt := 21) hx hb dX10_invoiceTotal_10 (by decide) (fun c3 => ?_) (fun c3 => ?_)
  · replace hf := it_t c3 hf
    refine lv_aload_n hx hb dX10_invoiceTotal_21 rfl (lv_at hl 0 rfl) ?_
    refine lv_iconst (v := 1) hx hb dX10_invoiceTotal_22 (by decide) ?_
    obtain ⟨r4, o5, hc6, hf⟩ := bd2_some hf
    refine ca_iV C w (wn := fun _ => w_X10_invoiceTotal g h0 h1 h2 v0_1 v0_2 v0_3 v0_4 v0_5 v0_6 v0_7 v0_8 v0_9 v0_11 v0_12 v0_13 v0_14 v0_15 v0_16 v0_17 v0_18 v0_19 v0_20 v0_22 v0_23 v0_24 v0_25 v0_26 v0_27 v0_28 v0_29 v0_30 v0_31 v0_32 v0_33 v0_34 v0_35 v0_36 v0_37 o5 basic1 state2) (pm_k [true, false, false] rfl rfl (fun _ => Nat.le_of_ble_eq_true rfl) (fun _ => rfl)) (c_X10_fail l g F h0 v0_1 v0_2 v0_3 v0_4 v0_5 v0_6 v0_7 v0_8 v0_9 (.ref h1) v0_11 v0_12 v0_13 v0_14 v0_15 v0_16 v0_17 v0_18 v0_19 v0_20 (.ref h2) v0_22 v0_23 v0_24 v0_25 v0_26 v0_27 v0_28 v0_29 v0_30 v0_31 v0_32 v0_33 v0_34 v0_35 v0_36 v0_37 1 0 r4 o5 _ hc6) k_X10_202 (rm_le (by decide) (by decide)) 0 10 rfl rfl rfl rfl hl.1 rfl (Nat.le_of_ble_eq_true rfl) dX10_invoiceTotal_23 ⟨Nat.le_of_ble_eq_true rfl, Nat.le_of_ble_eq_true rfl⟩ (cells2 := 0) (slots2 := 0) ⟨rfl, rfl⟩ (fun _ H locs w => ?_)
    exact b26 r4 o5 _ _ _ hf w (lv_sub hl [] rfl)
  · replace hf := it_f c3 hf
    refine lv_aload_n hx hb dX10_invoiceTotal_13 rfl (lv_at hl 0 rfl) ?_
    refine lv_iload_n hx hb dX10_invoiceTotal_14 rfl (lv_at hl 1 rfl) ?_
    obtain ⟨r7, hc8, hf⟩ := bd1_some hf
    refine ca_iV C w (wn := fun _ => w_X10_invoiceTotal g h0 h1 h2 v0_1 v0_2 v0_3 v0_4 v0_5 v0_6 v0_7 v0_8 v0_9 v0_11 v0_12 v0_13 v0_14 v0_15 v0_16 v0_17 v0_18 v0_19 v0_20 v0_22 v0_23 v0_24 v0_25 v0_26 v0_27 v0_28 v0_29 v0_30 v0_31 v0_32 v0_33 v0_34 v0_35 v0_36 v0_37 0 basic1 state2) (pm_k [true, true, true] rfl rfl (fun _ => Nat.le_of_ble_eq_true rfl) (fun _ => rfl)) (c_X10_totalOf l g F h0 h1 h2 (.int 0) v0_1 v0_2 v0_3 v0_4 v0_5 v0_6 v0_7 v0_8 v0_9 v0_11 v0_12 v0_13 v0_14 v0_15 v0_16 v0_17 v0_18 v0_19 v0_20 v0_22 v0_23 v0_24 v0_25 v0_26 v0_27 v0_28 v0_29 v0_30 v0_31 v0_32 v0_33 v0_34 v0_35 v0_36 v0_37 p1 basic1 state2 r7 _ hc8) k_X10_331 (rm_le (by decide) (by decide)) 0 10 rfl rfl rfl rfl hl.1 rfl (Nat.le_of_ble_eq_true rfl) dX10_invoiceTotal_15 ⟨Nat.le_of_ble_eq_true rfl, Nat.le_of_ble_eq_true rfl⟩ (cells2 := 0) (slots2 := 0) ⟨rfl, rfl⟩ (fun _ H locs w => ?_)
    refine lv_goto (tgt := 26) hx hb dX10_invoiceTotal_18 (by decide) ?_
    exact b26 r7 0 _ _ _ hf w (lv_sub hl [] rfl)

theorem dX10_balance_0 : decode cX10_balance 0 = .ok (.aload_n 0, 1) := by decide +kernel
theorem dX10_balance_1 : decode cX10_balance 1 = .ok (.iconst 0, 1) := by decide +kernel
theorem dX10_balance_2 : decode cX10_balance 2 = .ok (.putfield 84, 3) := by decide +kernel
theorem dX10_balance_5 : decode cX10_balance 5 = .ok (.aload_n 0, 1) := by decide +kernel
theorem dX10_balance_6 : decode cX10_balance 6 = .ok (.iload_n 1, 1) := by decide +kernel
theorem dX10_balance_7 : decode cX10_balance 7 = .ok (.invokevirtual 325, 3) := by decide +kernel
theorem dX10_balance_10 : decode cX10_balance 10 = .ok (.ifCond .eq 11, 3) := by decide +kernel
theorem dX10_balance_13 : decode cX10_balance 13 = .ok (.aload_n 0, 1) := by decide +kernel
theorem dX10_balance_14 : decode cX10_balance 14 = .ok (.iload_n 1, 1) := by decide +kernel
theorem dX10_balance_15 : decode cX10_balance 15 = .ok (.invokevirtual 334, 3) := by decide +kernel
theorem dX10_balance_18 : decode cX10_balance 18 = .ok (.goto 8, 3) := by decide +kernel
theorem dX10_balance_21 : decode cX10_balance 21 = .ok (.aload_n 0, 1) := by decide +kernel
theorem dX10_balance_22 : decode cX10_balance 22 = .ok (.iconst 1, 1) := by decide +kernel
theorem dX10_balance_23 : decode cX10_balance 23 = .ok (.invokevirtual 202, 3) := by decide +kernel
theorem dX10_balance_26 : decode cX10_balance 26 = .ok (.ireturn, 1) := by decide +kernel
abbrev m_X10_balance : MD := (yX10_balance, cX10_balance, 2, (some .int))
theorem q_1687 : Cond.code yX10_balanceOf cX10_balanceOf 2 (some .int) ∈ TS := ts_t 1687 (by decide +kernel) (by decide +kernel)
theorem q_1684 : Cond.methodLink RX10 334 yX10_balanceOf ∈ TS := ts_t 1684 (by decide +kernel) (by decide +kernel)
theorem q_1686 : Cond.instanceMethod yX10_balanceOf ∈ TS := ts_t 1686 (by decide +kernel) (by decide +kernel)
theorem qs_129 : Cond.selects yX10_balanceOf.cls yX10_balanceOf yX10_balanceOf ∈ TS := ts_s 129 (by decide +kernel) (by decide +kernel)
theorem k_X10_334 : LkV RX10 334 m_X10_balanceOf 1 := ⟨q_1684, q_1686, qs_129, ⟨q_11, q_1687, by decide, by decide, by decide +kernel⟩⟩
abbrev w_X10_balance (g : GT) (h0 h1 h2 : Nat) (v0_1 v0_2 v0_3 v0_4 v0_5 v0_6 v0_7 v0_8 v0_9 v0_11 v0_12 v0_13 v0_14 v0_15 v0_16 v0_17 v0_18 v0_19 v0_20 v0_22 v0_23 v0_24 v0_25 v0_26 v0_27 v0_28 v0_29 v0_30 v0_31 v0_32 v0_33 v0_34 v0_35 v0_36 v0_37 : Value) (thrown0 : Int32) (basic1 state2 : Nat → Int32) : va_W := [(h0, .inr (10, [.int thrown0, v0_1, v0_2, v0_3, v0_4, v0_5, v0_6, v0_7, v0_8, v0_9, .ref h1, v0_11, v0_12, v0_13, v0_14, v0_15, v0_16, v0_17, v0_18, v0_19, v0_20, .ref h2, v0_22, v0_23, v0_24, v0_25, v0_26, v0_27, v0_28, v0_29, v0_30, v0_31, v0_32, v0_33, v0_34, v0_35, v0_36, v0_37])), (h1, aI g 7 basic1), (h2, aI g 2524 state2)]
def f_X10_balance_b26 (F : Nat) (basic1 state2 : Nat → Int32) (s0 thrown0 : Int32) : Option (Int32 × Int32) :=
  some (s0, thrown0)
def f_X10_balance (F : Nat) (p1 thrown0 : Int32) (basic1 state2 : Nat → Int32) : Option (Int32 × Int32) :=
  bd1 (f_X10_isInvoice F p1 state2) fun r1 =>
  if r1 = 0 then
    bd2 (f_X10_fail F 1 0) fun r4 o5 =>
    f_X10_balance_b26 F basic1 state2 r4 o5
  else
    bd1 (f_X10_balanceOf F p1 basic1 state2) fun r7 =>
    f_X10_balance_b26 F basic1 state2 r7 0
set_option maxHeartbeats 4000000 in
set_option maxRecDepth 100000 in
theorem c_X10_balance (l : Launch) (g : GT) (F : Nat) (h0 h1 h2 : Nat) (v0_1 v0_2 v0_3 v0_4 v0_5 v0_6 v0_7 v0_8 v0_9 v0_11 v0_12 v0_13 v0_14 v0_15 v0_16 v0_17 v0_18 v0_19 v0_20 v0_22 v0_23 v0_24 v0_25 v0_26 v0_27 v0_28 v0_29 v0_30 v0_31 v0_32 v0_33 v0_34 v0_35 v0_36 v0_37 : Value) (p1 thrown0 : Int32) (basic1 state2 : Nat → Int32) (r o_thrown0 : Int32) (sz : Nat) (hf : f_X10_balance F p1 thrown0 basic1 state2 = some (r, o_thrown0)) : CI l m_X10_balance (rml 3 0 0) g (w_X10_balance g h0 h1 h2 v0_1 v0_2 v0_3 v0_4 v0_5 v0_6 v0_7 v0_8 v0_9 v0_11 v0_12 v0_13 v0_14 v0_15 v0_16 v0_17 v0_18 v0_19 v0_20 v0_22 v0_23 v0_24 v0_25 v0_26 v0_27 v0_28 v0_29 v0_30 v0_31 v0_32 v0_33 v0_34 v0_35 v0_36 v0_37 thrown0 basic1 state2) (fun _ => w_X10_balance g h0 h1 h2 v0_1 v0_2 v0_3 v0_4 v0_5 v0_6 v0_7 v0_8 v0_9 v0_11 v0_12 v0_13 v0_14 v0_15 v0_16 v0_17 v0_18 v0_19 v0_20 v0_22 v0_23 v0_24 v0_25 v0_26 v0_27 v0_28 v0_29 v0_30 v0_31 v0_32 v0_33 v0_34 v0_35 v0_36 v0_37 o_thrown0 basic1 state2) sz [.ref h0, .int p1] r := by
  refine en_i (by decide) (Nat.le_of_ble_eq_true rfl) (fun p e s m args below meth c A ls C w hl => ?_)
  have C : Cx p s m args meth c RX10 m_X10_balance g A := C
  have hx := C.1
  have hb : c.code = cX10_balance := C.2.1
  have hl : lv_has ls 2 [(0, .ref h0), (1, .int p1)] := hl
  obtain ⟨Q, hQ⟩ : ∃ Q, Q = QI below args s g A (fun _ => w_X10_balance g h0 h1 h2 v0_1 v0_2 v0_3 v0_4 v0_5 v0_6 v0_7 v0_8 v0_9 v0_11 v0_12 v0_13 v0_14 v0_15 v0_16 v0_17 v0_18 v0_19 v0_20 v0_22 v0_23 v0_24 v0_25 v0_26 v0_27 v0_28 v0_29 v0_30 v0_31 v0_32 v0_33 v0_34 v0_35 v0_36 v0_37 o_thrown0 basic1 state2) r 0 0 := ⟨_, rfl⟩
  suffices hW : W p l e (rml 3 0 0) s m args below meth c s.heap [] 0 0 Q (F0 m 0 ls []) from (by rw [hQ] at hW; exact hW)
  unfold f_X10_balance at hf
  have b26 : ∀ (s0 thrown0 : Int32) (H : Heap) (locs : List Loc) (ls : Array Slot), f_X10_balance_b26 F basic1 state2 s0 thrown0 = some (r, o_thrown0) → Wd g A (w_X10_balance g h0 h1 h2 v0_1 v0_2 v0_3 v0_4 v0_5 v0_6 v0_7 v0_8 v0_9 v0_11 v0_12 v0_13 v0_14 v0_15 v0_16 v0_17 v0_18 v0_19 v0_20 v0_22 v0_23 v0_24 v0_25 v0_26 v0_27 v0_28 v0_29 v0_30 v0_31 v0_32 v0_33 v0_34 v0_35 v0_36 v0_37 thrown0 basic1 state2) s.heap H locs → lv_has ls 2 [] → W p l e (rml 3 0 0) s m args below meth c H locs 0 0 Q (F0 m 26 ls [.int s0]) := by
    intro s0 thrown0 H locs ls hf w hl
    unfold f_X10_balance_b26 at hf
    obtain ⟨e1, e2⟩ := tp2 hf
    rw [hQ]
    exact rt_i C w rfl (fun _ => 0) (by rw [← e2]) e1 dX10_balance_26
  refine lv_aload_n hx hb dX10_balance_0 rfl (lv_at hl 0 rfl) ?_
  refine lv_iconst (v := 0) hx hb dX10_balance_1 (by decide) ?_
  refine p_X10_84 C w 0 rfl (Nat.le_of_ble_eq_true rfl) (ws2 := w_X10_balance g h0 h1 h2 v0_1 v0_2 v0_3 v0_4 v0_5 v0_6 v0_7 v0_8 v0_9 v0_11 v0_12 v0_13 v0_14 v0_15 v0_16 v0_17 v0_18 v0_19 v0_20 v0_22 v0_23 v0_24 v0_25 v0_26 v0_27 v0_28 v0_29 v0_30 v0_31 v0_32 v0_33 v0_34 v0_35 v0_36 v0_37 0 basic1 state2) rfl dX10_balance_2 (fun H locs w => ?_)
  refine lv_aload_n hx hb dX10_balance_5 rfl (lv_at hl 0 rfl) ?_
  refine lv_iload_n hx hb dX10_balance_6 rfl (lv_at hl 1 rfl) ?_
  obtain ⟨r1, hc2, hf⟩ := bd1_some hf
  refine ca_iV C w (wn := fun _ => w_X10_balance g h0 h1 h2 v0_1 v0_2 v0_3 v0_4 v0_5 v0_6 v0_7 v0_8 v0_9 v0_11 v0_12 v0_13 v0_14 v0_15 v0_16 v0_17 v0_18 v0_19 v0_20 v0_22 v0_23 v0_24 v0_25 v0_26 v0_27 v0_28 v0_29 v0_30 v0_31 v0_32 v0_33 v0_34 v0_35 v0_36 v0_37 0 basic1 state2) (pm_k [true, false, true] rfl rfl (fun _ => Nat.le_of_ble_eq_true rfl) (fun _ => rfl)) (c_X10_isInvoice l g F h0 h2 (.int 0) v0_1 v0_2 v0_3 v0_4 v0_5 v0_6 v0_7 v0_8 v0_9 (.ref h1) v0_11 v0_12 v0_13 v0_14 v0_15 v0_16 v0_17 v0_18 v0_19 v0_20 v0_22 v0_23 v0_24 v0_25 v0_26 v0_27 v0_28 v0_29 v0_30 v0_31 v0_32 v0_33 v0_34 v0_35 v0_36 v0_37 p1 state2 r1 _ hc2) k_X10_325 (rm_le (by decide) (by decide)) 0 10 rfl rfl rfl rfl hl.1 rfl (Nat.le_of_ble_eq_true rfl) dX10_balance_7 ⟨Nat.le_of_ble_eq_true rfl, Nat.le_of_ble_eq_true rfl⟩ (cells2 := 0) (slots2 := 0) ⟨rfl, rfl⟩ (fun _ H locs w => ?_)
  refine lv_if_eq (tgt := 21) hx hb dX10_balance_10 (by decide) (fun c3 => ?_) (fun c3 => ?_)
  · replace hf := it_t c3 hf
    refine lv_aload_n hx hb dX10_balance_21 rfl (lv_at hl 0 rfl) ?_
    refine lv_iconst (v := 1) hx hb dX10_balance_22 (by decide) ?_
    obtain ⟨r4, o5, hc6, hf⟩ := bd2_some hf
    refine ca_iV C w (wn := fun _ => w_X10_balance g h0 h1 h2 v0_1 v0_2 v0_3 v0_4 v0_5 v0_6 v0_7 v0_8 v0_9 v0_11 v0_12 v0_13 v0_14 v0_15 v0_16 v0_17 v0_18 v0_19 v0_20 v0_22 v0_23 v0_24 v0_25 v0_26 v0_27 v0_28 v0_29 v0_30 v0_31 v0_32 v0_33 v0_34 v0_35 v0_36 v0_37 o5 basic1 state2) (pm_k [true, false, false] rfl rfl (fun _ => Nat.le_of_ble_eq_true rfl) (fun _ => rfl)) (c_X10_fail l g F h0 v0_1 v0_2 v0_3 v0_4 v0_5 v0_6 v0_7 v0_8 v0_9 (.ref h1) v0_11 v0_12 v0_13 v0_14 v0_15 v0_16 v0_17 v0_18 v0_19 v0_20 (.ref h2) v0_22 v0_23 v0_24 v0_25 v0_26 v0_27 v0_28 v0_29 v0_30 v0_31 v0_32 v0_33 v0_34 v0_35 v0_36 v0_37 1 0 r4 o5 _ hc6) k_X10_202 (rm_le (by decide) (by decide)) 0 10 rfl rfl rfl rfl hl.1 rfl (Nat.le_of_ble_eq_true rfl) dX10_balance_23 ⟨Nat.le_of_ble_eq_true rfl, Nat.le_of_ble_eq_true rfl⟩ (cells2 := 0) (slots2 := 0) ⟨rfl, rfl⟩ (fun _ H locs w => ?_)
    exact b26 r4 o5 _ _ _ hf w (lv_sub hl [] rfl)
  · replace hf := it_f c3 hf
    refine lv_aload_n hx hb dX10_balance_13 rfl (lv_at hl 0 rfl) ?_
    refine lv_iload_n hx hb dX10_balance_14 rfl (lv_at hl 1 rfl) ?_
    obtain ⟨r7, hc8, hf⟩ := bd1_some hf
    refine ca_iV C w (wn := fun _ => w_X10_balance g h0 h1 h2 v0_1 v0_2 v0_3 v0_4 v0_5 v0_6 v0_7 v0_8 v0_9 v0_11 v0_12 v0_13 v0_14 v0_15 v0_16 v0_17 v0_18 v0_19 v0_20 v0_22 v0_23 v0_24 v0_25 v0_26 v0_27 v0_28 v0_29 v0_30 v0_31 v0_32 v0_33 v0_34 v0_35 v0_36 v0_37 0 basic1 state2) (pm_k [true, true, true] rfl rfl (fun _ => Nat.le_of_ble_eq_true rfl) (fun _ => rfl)) (c_X10_balanceOf l g F h0 h1 h2 (.int 0) v0_1 v0_2 v0_3 v0_4 v0_5 v0_6 v0_7 v0_8 v0_9 v0_11 v0_12 v0_13 v0_14 v0_15 v0_16 v0_17 v0_18 v0_19 v0_20 v0_22 v0_23 v0_24 v0_25 v0_26 v0_27 v0_28 v0_29 v0_30 v0_31 v0_32 v0_33 v0_34 v0_35 v0_36 v0_37 p1 basic1 state2 r7 _ hc8) k_X10_334 (rm_le (by decide) (by decide)) 0 10 rfl rfl rfl rfl hl.1 rfl (Nat.le_of_ble_eq_true rfl) dX10_balance_15 ⟨Nat.le_of_ble_eq_true rfl, Nat.le_of_ble_eq_true rfl⟩ (cells2 := 0) (slots2 := 0) ⟨rfl, rfl⟩ (fun _ H locs w => ?_)
    refine lv_goto (tgt := 26) hx hb dX10_balance_18 (by decide) ?_
    exact b26 r7 0 _ _ _ hf w (lv_sub hl [] rfl)

theorem dX10_outstanding_0 : decode cX10_outstanding 0 = .ok (.iconst 0, 1) := by decide +kernel
theorem dX10_outstanding_1 : decode cX10_outstanding 1 = .ok (.istore_n 1, 1) := by decide +kernel
theorem dX10_outstanding_2 : decode cX10_outstanding 2 = .ok (.iconst 0, 1) := by decide +kernel
theorem dX10_outstanding_3 : decode cX10_outstanding 3 = .ok (.istore_n 2, 1) := by decide +kernel
theorem dX10_outstanding_4 : decode cX10_outstanding 4 = .ok (.iload_n 2, 1) := by decide +kernel
theorem dX10_outstanding_5 : decode cX10_outstanding 5 = .ok (.aload_n 0, 1) := by decide +kernel
theorem dX10_outstanding_6 : decode cX10_outstanding 6 = .ok (.getfield 44, 3) := by decide +kernel
theorem dX10_outstanding_9 : decode cX10_outstanding 9 = .ok (.iconst 2, 1) := by decide +kernel
theorem dX10_outstanding_10 : decode cX10_outstanding 10 = .ok (.iaload, 1) := by decide +kernel
theorem dX10_outstanding_11 : decode cX10_outstanding 11 = .ok (.if_icmp .ge 29, 3) := by decide +kernel
theorem dX10_outstanding_14 : decode cX10_outstanding 14 = .ok (.iload_n 1, 1) := by decide +kernel
theorem dX10_outstanding_15 : decode cX10_outstanding 15 = .ok (.aload_n 0, 1) := by decide +kernel
theorem dX10_outstanding_16 : decode cX10_outstanding 16 = .ok (.iload_n 2, 1) := by decide +kernel
theorem dX10_outstanding_17 : decode cX10_outstanding 17 = .ok (.invokevirtual 334, 3) := by decide +kernel
theorem dX10_outstanding_20 : decode cX10_outstanding 20 = .ok (.ifCond .le 11, 3) := by decide +kernel
theorem dX10_outstanding_23 : decode cX10_outstanding 23 = .ok (.aload_n 0, 1) := by decide +kernel
theorem dX10_outstanding_24 : decode cX10_outstanding 24 = .ok (.iload_n 2, 1) := by decide +kernel
theorem dX10_outstanding_25 : decode cX10_outstanding 25 = .ok (.invokevirtual 334, 3) := by decide +kernel
theorem dX10_outstanding_28 : decode cX10_outstanding 28 = .ok (.goto 4, 3) := by decide +kernel
theorem dX10_outstanding_31 : decode cX10_outstanding 31 = .ok (.iconst 0, 1) := by decide +kernel
theorem dX10_outstanding_32 : decode cX10_outstanding 32 = .ok (.iadd, 1) := by decide +kernel
theorem dX10_outstanding_33 : decode cX10_outstanding 33 = .ok (.istore_n 1, 1) := by decide +kernel
theorem dX10_outstanding_34 : decode cX10_outstanding 34 = .ok (.iinc 2 1, 3) := by decide +kernel
theorem dX10_outstanding_37 : decode cX10_outstanding 37 = .ok (.goto (-33), 3) := by decide +kernel
theorem dX10_outstanding_40 : decode cX10_outstanding 40 = .ok (.aload_n 0, 1) := by decide +kernel
theorem dX10_outstanding_41 : decode cX10_outstanding 41 = .ok (.iload_n 1, 1) := by decide +kernel
theorem dX10_outstanding_42 : decode cX10_outstanding 42 = .ok (.invokevirtual 215, 3) := by decide +kernel
theorem dX10_outstanding_45 : decode cX10_outstanding 45 = .ok (.ireturn, 1) := by decide +kernel
abbrev m_X10_outstanding : MD := (yX10_outstanding, cX10_outstanding, 3, (some .int))

abbrev w_X10_outstanding (g : GT) (h0 h1 h2 : Nat) (v0_1 v0_2 v0_3 v0_4 v0_5 v0_6 v0_7 v0_8 v0_9 v0_11 v0_12 v0_13 v0_14 v0_15 v0_16 v0_17 v0_18 v0_19 v0_20 v0_22 v0_23 v0_24 v0_25 v0_26 v0_27 v0_28 v0_29 v0_30 v0_31 v0_32 v0_33 v0_34 v0_35 v0_36 v0_37 : Value) (thrown0 : Int32) (basic1 state2 : Nat → Int32) : va_W := [(h0, .inr (10, [.int thrown0, v0_1, v0_2, v0_3, v0_4, v0_5, v0_6, v0_7, v0_8, v0_9, .ref h1, v0_11, v0_12, v0_13, v0_14, v0_15, v0_16, v0_17, v0_18, v0_19, v0_20, .ref h2, v0_22, v0_23, v0_24, v0_25, v0_26, v0_27, v0_28, v0_29, v0_30, v0_31, v0_32, v0_33, v0_34, v0_35, v0_36, v0_37])), (h1, aI g 7 basic1), (h2, aI g 2524 state2)]
def f_X10_outstanding_b32 (F : Nat) (k4 : (Int32 × Int32 × Int32) → Option (Int32 × Int32)) (basic1 state2 : Nat → Int32) (x2 s0 s1 thrown0 : Int32) : Option (Int32 × Int32) :=
  k4 (s1 + s0, x2 + 1, thrown0)
def f_X10_outstanding_h4 (F : Nat) (basic1 state2 : Nat → Int32) (k4 : (Int32 × Int32 × Int32) → Option (Int32 × Int32)) (x1 x2 thrown0 : Int32) : Option (Int32 × Int32) :=
  rd state2 2524 2 fun a1 =>
  if a1 ≤ x2 then
    bd2 (f_X10_told F x1 thrown0) fun r3 o4 =>
    some (r3, o4)
  else
    bd1 (f_X10_balanceOf F x2 basic1 state2) fun r6 =>
    if r6 ≤ 0 then
      f_X10_outstanding_b32 F k4 basic1 state2 x2 0 x1 thrown0
    else
      bd1 (f_X10_balanceOf F x2 basic1 state2) fun r9 =>
      f_X10_outstanding_b32 F k4 basic1 state2 x2 r9 x1 thrown0
def f_X10_outstanding_L4 (F : Nat) (basic1 state2 : Nat → Int32) (z : Int32 × Int32 × Int32) : Option (Int32 × Int32) := lp (fun k z => f_X10_outstanding_h4 F basic1 state2 k z.1 z.2.1 z.2.2) F z
def f_X10_outstanding (F : Nat) (thrown0 : Int32) (basic1 state2 : Nat → Int32) : Option (Int32 × Int32) :=
  f_X10_outstanding_L4 F basic1 state2 (0, 0, thrown0)
set_option maxHeartbeats 4000000 in
set_option maxRecDepth 100000 in
theorem c_X10_outstanding (l : Launch) (g : GT) (F : Nat) (h0 h1 h2 : Nat) (v0_1 v0_2 v0_3 v0_4 v0_5 v0_6 v0_7 v0_8 v0_9 v0_11 v0_12 v0_13 v0_14 v0_15 v0_16 v0_17 v0_18 v0_19 v0_20 v0_22 v0_23 v0_24 v0_25 v0_26 v0_27 v0_28 v0_29 v0_30 v0_31 v0_32 v0_33 v0_34 v0_35 v0_36 v0_37 : Value) (thrown0 : Int32) (basic1 state2 : Nat → Int32) (r o_thrown0 : Int32) (sz : Nat) (hf : f_X10_outstanding F thrown0 basic1 state2 = some (r, o_thrown0)) : CI l m_X10_outstanding (rml 3 0 0) g (w_X10_outstanding g h0 h1 h2 v0_1 v0_2 v0_3 v0_4 v0_5 v0_6 v0_7 v0_8 v0_9 v0_11 v0_12 v0_13 v0_14 v0_15 v0_16 v0_17 v0_18 v0_19 v0_20 v0_22 v0_23 v0_24 v0_25 v0_26 v0_27 v0_28 v0_29 v0_30 v0_31 v0_32 v0_33 v0_34 v0_35 v0_36 v0_37 thrown0 basic1 state2) (fun _ => w_X10_outstanding g h0 h1 h2 v0_1 v0_2 v0_3 v0_4 v0_5 v0_6 v0_7 v0_8 v0_9 v0_11 v0_12 v0_13 v0_14 v0_15 v0_16 v0_17 v0_18 v0_19 v0_20 v0_22 v0_23 v0_24 v0_25 v0_26 v0_27 v0_28 v0_29 v0_30 v0_31 v0_32 v0_33 v0_34 v0_35 v0_36 v0_37 o_thrown0 basic1 state2) sz [.ref h0] r := by
  refine en_i (by decide) (Nat.le_of_ble_eq_true rfl) (fun p e s m args below meth c A ls C w hl => ?_)
  have C : Cx p s m args meth c RX10 m_X10_outstanding g A := C
  have hx := C.1
  have hb : c.code = cX10_outstanding := C.2.1
  have hl : lv_has ls 3 [(0, .ref h0)] := hl
  obtain ⟨Q, hQ⟩ : ∃ Q, Q = QI below args s g A (fun _ => w_X10_outstanding g h0 h1 h2 v0_1 v0_2 v0_3 v0_4 v0_5 v0_6 v0_7 v0_8 v0_9 v0_11 v0_12 v0_13 v0_14 v0_15 v0_16 v0_17 v0_18 v0_19 v0_20 v0_22 v0_23 v0_24 v0_25 v0_26 v0_27 v0_28 v0_29 v0_30 v0_31 v0_32 v0_33 v0_34 v0_35 v0_36 v0_37 o_thrown0 basic1 state2) r 0 0 := ⟨_, rfl⟩
  suffices hW : W p l e (rml 3 0 0) s m args below meth c s.heap [] 0 0 Q (F0 m 0 ls []) from (by rw [hQ] at hW; exact hW)
  unfold f_X10_outstanding at hf
  have L4 : ∀ (z : Int32 × Int32 × Int32), f_X10_outstanding_L4 F basic1 state2 z = some (r, o_thrown0) → ∀ (H : Heap) (locs : List Loc) (ls : Array Slot), Wd g A (w_X10_outstanding g h0 h1 h2 v0_1 v0_2 v0_3 v0_4 v0_5 v0_6 v0_7 v0_8 v0_9 v0_11 v0_12 v0_13 v0_14 v0_15 v0_16 v0_17 v0_18 v0_19 v0_20 v0_22 v0_23 v0_24 v0_25 v0_26 v0_27 v0_28 v0_29 v0_30 v0_31 v0_32 v0_33 v0_34 v0_35 v0_36 v0_37 z.2.2 basic1 state2) s.heap H locs → lv_has ls 3 [(0, .ref h0), (1, .int z.1), (2, .int z.2.1)] → W p l e (rml 3 0 0) s m args below meth c H locs 0 0 Q (F0 m 4 ls []) := by
    intro z hf
    refine lp_W (r := (r, o_thrown0)) (fun (z : Int32 × Int32 × Int32) => ∀ (H : Heap) (locs : List Loc) (ls : Array Slot), Wd g A (w_X10_outstanding g h0 h1 h2 v0_1 v0_2 v0_3 v0_4 v0_5 v0_6 v0_7 v0_8 v0_9 v0_11 v0_12 v0_13 v0_14 v0_15 v0_16 v0_17 v0_18 v0_19 v0_20 v0_22 v0_23 v0_24 v0_25 v0_26 v0_27 v0_28 v0_29 v0_30 v0_31 v0_32 v0_33 v0_34 v0_35 v0_36 v0_37 z.2.2 basic1 state2) s.heap H locs → lv_has ls 3 [(0, .ref h0), (1, .int z.1), (2, .int z.2.1)] → W p l e (rml 3 0 0) s m args below meth c H locs 0 0 Q (F0 m 4 ls [])) (fun k4 z ih4 hf => ?_) F z hf
    obtain ⟨x1, x2, thrown0⟩ := z
    intro H locs ls w hl
    try dsimp only at hf w hl ⊢
    unfold f_X10_outstanding_h4 at hf
    have b32 : ∀ (x2 s0 s1 thrown0 : Int32) (H : Heap) (locs : List Loc) (ls : Array Slot), f_X10_outstanding_b32 F k4 basic1 state2 x2 s0 s1 thrown0 = some (r, o_thrown0) → Wd g A (w_X10_outstanding g h0 h1 h2 v0_1 v0_2 v0_3 v0_4 v0_5 v0_6 v0_7 v0_8 v0_9 v0_11 v0_12 v0_13 v0_14 v0_15 v0_16 v0_17 v0_18 v0_19 v0_20 v0_22 v0_23 v0_24 v0_25 v0_26 v0_27 v0_28 v0_29 v0_30 v0_31 v0_32 v0_33 v0_34 v0_35 v0_36 v0_37 thrown0 basic1 state2) s.heap H locs → lv_has ls 3 [(0, .ref h0), (2, .int x2)] → W p l e (rml 3 0 0) s m args below meth c H locs 0 0 Q (F0 m 32 ls [.int s0, .int s1]) := by
      intro x2 s0 s1 thrown0 H locs ls hf w hl
      unfold f_X10_outstanding_b32 at hf
      refine lv_iadd hx hb dX10_outstanding_32 ?_
      refine lv_istore_n (lv' := [(1, .int (s1 + s0)), (0, .ref h0), (2, .int x2)]) hx hb dX10_outstanding_33 rfl hl (by decide) rfl (fun ls hl => ?_)
      refine lv_iinc (v := x2 + 1) (lv' := [(2, .int (x2 + 1)), (1, .int (s1 + s0)), (0, .ref h0)]) hx hb dX10_outstanding_34 hl (k := 2) rfl rfl (by decide) rfl (fun ls hl => ?_)
      refine lv_goto (tgt := 4) hx hb dX10_outstanding_37 (by decide) ?_
      exact ih4 (s1 + s0, x2 + 1, thrown0) hf _ _ _ w (lv_sub hl [2, 1, 0] rfl)
    refine lv_iload_n hx hb dX10_outstanding_4 rfl (lv_at hl 2 rfl) ?_
    refine lv_aload_n hx hb dX10_outstanding_5 rfl (lv_at hl 0 rfl) ?_
    refine g_X10_44 C w 0 rfl rfl dX10_outstanding_6 ?_
    refine lv_iconst (v := 2) hx hb dX10_outstanding_9 (by decide) ?_
    obtain ⟨a1, hia1, haa1, hf⟩ := rd_some hf
    refine ial C w 2 rfl hia1 haa1 dX10_outstanding_10 ?_
    refine lv_icmp_ge (tgt := 40) hx hb dX10_outstanding_11 (by decide) (fun c2 => ?_) (fun c2 => ?_)
    · replace hf := it_t c2 hf
      refine lv_aload_n hx hb dX10_outstanding_40 rfl (lv_at hl 0 rfl) ?_
      refine lv_iload_n hx hb dX10_outstanding_41 rfl (lv_at hl 1 rfl) ?_
      obtain ⟨r3, o4, hc5, hf⟩ := bd2_some hf
      refine ca_iV C w (wn := fun _ => w_X10_outstanding g h0 h1 h2 v0_1 v0_2 v0_3 v0_4 v0_5 v0_6 v0_7 v0_8 v0_9 v0_11 v0_12 v0_13 v0_14 v0_15 v0_16 v0_17 v0_18 v0_19 v0_20 v0_22 v0_23 v0_24 v0_25 v0_26 v0_27 v0_28 v0_29 v0_30 v0_31 v0_32 v0_33 v0_34 v0_35 v0_36 v0_37 o4 basic1 state2) (pm_k [true, false, false] rfl rfl (fun _ => Nat.le_of_ble_eq_true rfl) (fun _ => rfl)) (c_X10_told l g F h0 v0_1 v0_2 v0_3 v0_4 v0_5 v0_6 v0_7 v0_8 v0_9 (.ref h1) v0_11 v0_12 v0_13 v0_14 v0_15 v0_16 v0_17 v0_18 v0_19 v0_20 (.ref h2) v0_22 v0_23 v0_24 v0_25 v0_26 v0_27 v0_28 v0_29 v0_30 v0_31 v0_32 v0_33 v0_34 v0_35 v0_36 v0_37 x1 thrown0 r3 o4 _ hc5) k_X10_215 (rm_le (by decide) (by decide)) 0 10 rfl rfl rfl rfl hl.1 rfl (Nat.le_of_ble_eq_true rfl) dX10_outstanding_42 ⟨Nat.le_of_ble_eq_true rfl, Nat.le_of_ble_eq_true rfl⟩ (cells2 := 0) (slots2 := 0) ⟨rfl, rfl⟩ (fun _ H locs w => ?_)
      obtain ⟨e1, e2⟩ := tp2 hf
      rw [hQ]
      exact rt_i C w rfl (fun _ => 0) (by rw [← e2]) e1 dX10_outstanding_45
    · replace hf := it_f c2 hf
      refine lv_iload_n hx hb dX10_outstanding_14 rfl (lv_at hl 1 rfl) ?_
      refine lv_aload_n hx hb dX10_outstanding_15 rfl (lv_at hl 0 rfl) ?_
      refine lv_iload_n hx hb dX10_outstanding_16 rfl (lv_at hl 2 rfl) ?_
      obtain ⟨r6, hc7, hf⟩ := bd1_some hf
      refine ca_iV C w (wn := fun _ => w_X10_outstanding g h0 h1 h2 v0_1 v0_2 v0_3 v0_4 v0_5 v0_6 v0_7 v0_8 v0_9 v0_11 v0_12 v0_13 v0_14 v0_15 v0_16 v0_17 v0_18 v0_19 v0_20 v0_22 v0_23 v0_24 v0_25 v0_26 v0_27 v0_28 v0_29 v0_30 v0_31 v0_32 v0_33 v0_34 v0_35 v0_36 v0_37 thrown0 basic1 state2) (pm_k [true, true, true] rfl rfl (fun _ => Nat.le_of_ble_eq_true rfl) (fun _ => rfl)) (c_X10_balanceOf l g F h0 h1 h2 (.int thrown0) v0_1 v0_2 v0_3 v0_4 v0_5 v0_6 v0_7 v0_8 v0_9 v0_11 v0_12 v0_13 v0_14 v0_15 v0_16 v0_17 v0_18 v0_19 v0_20 v0_22 v0_23 v0_24 v0_25 v0_26 v0_27 v0_28 v0_29 v0_30 v0_31 v0_32 v0_33 v0_34 v0_35 v0_36 v0_37 x2 basic1 state2 r6 _ hc7) k_X10_334 (rm_le (by decide) (by decide)) 0 10 rfl rfl rfl rfl hl.1 rfl (Nat.le_of_ble_eq_true rfl) dX10_outstanding_17 ⟨Nat.le_of_ble_eq_true rfl, Nat.le_of_ble_eq_true rfl⟩ (cells2 := 0) (slots2 := 0) ⟨rfl, rfl⟩ (fun _ H locs w => ?_)
      refine lv_if_le (tgt := 31) hx hb dX10_outstanding_20 (by decide) (fun c8 => ?_) (fun c8 => ?_)
      · replace hf := it_t c8 hf
        refine lv_iconst (v := 0) hx hb dX10_outstanding_31 (by decide) ?_
        exact b32 x2 0 x1 thrown0 _ _ _ hf w (lv_sub hl [0, 2] rfl)
      · replace hf := it_f c8 hf
        refine lv_aload_n hx hb dX10_outstanding_23 rfl (lv_at hl 0 rfl) ?_
        refine lv_iload_n hx hb dX10_outstanding_24 rfl (lv_at hl 2 rfl) ?_
        obtain ⟨r9, hc10, hf⟩ := bd1_some hf
        refine ca_iV C w (wn := fun _ => w_X10_outstanding g h0 h1 h2 v0_1 v0_2 v0_3 v0_4 v0_5 v0_6 v0_7 v0_8 v0_9 v0_11 v0_12 v0_13 v0_14 v0_15 v0_16 v0_17 v0_18 v0_19 v0_20 v0_22 v0_23 v0_24 v0_25 v0_26 v0_27 v0_28 v0_29 v0_30 v0_31 v0_32 v0_33 v0_34 v0_35 v0_36 v0_37 thrown0 basic1 state2) (pm_k [true, true, true] rfl rfl (fun _ => Nat.le_of_ble_eq_true rfl) (fun _ => rfl)) (c_X10_balanceOf l g F h0 h1 h2 (.int thrown0) v0_1 v0_2 v0_3 v0_4 v0_5 v0_6 v0_7 v0_8 v0_9 v0_11 v0_12 v0_13 v0_14 v0_15 v0_16 v0_17 v0_18 v0_19 v0_20 v0_22 v0_23 v0_24 v0_25 v0_26 v0_27 v0_28 v0_29 v0_30 v0_31 v0_32 v0_33 v0_34 v0_35 v0_36 v0_37 x2 basic1 state2 r9 _ hc10) k_X10_334 (rm_le (by decide) (by decide)) 0 10 rfl rfl rfl rfl hl.1 rfl (Nat.le_of_ble_eq_true rfl) dX10_outstanding_25 ⟨Nat.le_of_ble_eq_true rfl, Nat.le_of_ble_eq_true rfl⟩ (cells2 := 0) (slots2 := 0) ⟨rfl, rfl⟩ (fun _ H locs w => ?_)
        refine lv_goto (tgt := 32) hx hb dX10_outstanding_28 (by decide) ?_
        exact b32 x2 r9 x1 thrown0 _ _ _ hf w (lv_sub hl [0, 2] rfl)
  refine lv_iconst (v := 0) hx hb dX10_outstanding_0 (by decide) ?_
  refine lv_istore_n (lv' := [(1, .int 0), (0, .ref h0)]) hx hb dX10_outstanding_1 rfl hl (by decide) rfl (fun ls hl => ?_)
  refine lv_iconst (v := 0) hx hb dX10_outstanding_2 (by decide) ?_
  refine lv_istore_n (lv' := [(2, .int 0), (1, .int 0), (0, .ref h0)]) hx hb dX10_outstanding_3 rfl hl (by decide) rfl (fun ls hl => ?_)
  exact L4 (0, 0, thrown0) hf _ _ _ w (lv_sub hl [2, 1, 0] rfl)

theorem dX10_joins_0 : decode cX10_joins 0 = .ok (.iconst (-1), 1) := by decide +kernel
theorem dX10_joins_1 : decode cX10_joins 1 = .ok (.istore 5, 2) := by decide +kernel
theorem dX10_joins_3 : decode cX10_joins 3 = .ok (.iconst 0, 1) := by decide +kernel
theorem dX10_joins_4 : decode cX10_joins 4 = .ok (.istore 6, 2) := by decide +kernel
theorem dX10_joins_6 : decode cX10_joins 6 = .ok (.iload 6, 2) := by decide +kernel
theorem dX10_joins_8 : decode cX10_joins 8 = .ok (.aload_n 0, 1) := by decide +kernel
theorem dX10_joins_9 : decode cX10_joins 9 = .ok (.getfield 44, 3) := by decide +kernel
theorem dX10_joins_12 : decode cX10_joins 12 = .ok (.iconst 0, 1) := by decide +kernel
theorem dX10_joins_13 : decode cX10_joins 13 = .ok (.iaload, 1) := by decide +kernel
theorem dX10_joins_14 : decode cX10_joins 14 = .ok (.if_icmp .ge 35, 3) := by decide +kernel
theorem dX10_joins_17 : decode cX10_joins 17 = .ok (.aload_n 0, 1) := by decide +kernel
theorem dX10_joins_18 : decode cX10_joins 18 = .ok (.iload 6, 2) := by decide +kernel
theorem dX10_joins_20 : decode cX10_joins 20 = .ok (.iconst 0, 1) := by decide +kernel
theorem dX10_joins_21 : decode cX10_joins 21 = .ok (.invokevirtual 250, 3) := by decide +kernel
theorem dX10_joins_24 : decode cX10_joins 24 = .ok (.iload_n 1, 1) := by decide +kernel
theorem dX10_joins_25 : decode cX10_joins 25 = .ok (.if_icmp .ne 18, 3) := by decide +kernel
theorem dX10_joins_28 : decode cX10_joins 28 = .ok (.aload_n 0, 1) := by decide +kernel
theorem dX10_joins_29 : decode cX10_joins 29 = .ok (.iload 6, 2) := by decide +kernel
theorem dX10_joins_31 : decode cX10_joins 31 = .ok (.iconst 1, 1) := by decide +kernel
theorem dX10_joins_32 : decode cX10_joins 32 = .ok (.invokevirtual 250, 3) := by decide +kernel
theorem dX10_joins_35 : decode cX10_joins 35 = .ok (.iload_n 2, 1) := by decide +kernel
theorem dX10_joins_36 : decode cX10_joins 36 = .ok (.if_icmp .ne 7, 3) := by decide +kernel
theorem dX10_joins_39 : decode cX10_joins 39 = .ok (.iload 6, 2) := by decide +kernel
theorem dX10_joins_41 : decode cX10_joins 41 = .ok (.istore 5, 2) := by decide +kernel
theorem dX10_joins_43 : decode cX10_joins 43 = .ok (.iinc 6 1, 3) := by decide +kernel
theorem dX10_joins_46 : decode cX10_joins 46 = .ok (.goto (-40), 3) := by decide +kernel
theorem dX10_joins_49 : decode cX10_joins 49 = .ok (.iload 5, 2) := by decide +kernel
theorem dX10_joins_51 : decode cX10_joins 51 = .ok (.ifCond .lt 31, 3) := by decide +kernel
theorem dX10_joins_54 : decode cX10_joins 54 = .ok (.aload_n 0, 1) := by decide +kernel
theorem dX10_joins_55 : decode cX10_joins 55 = .ok (.iload 5, 2) := by decide +kernel
theorem dX10_joins_57 : decode cX10_joins 57 = .ok (.iconst 3, 1) := by decide +kernel
theorem dX10_joins_58 : decode cX10_joins 58 = .ok (.invokevirtual 250, 3) := by decide +kernel
theorem dX10_joins_61 : decode cX10_joins 61 = .ok (.ifCond .ne 21, 3) := by decide +kernel
theorem dX10_joins_64 : decode cX10_joins 64 = .ok (.iload_n 3, 1) := by decide +kernel
theorem dX10_joins_65 : decode cX10_joins 65 = .ok (.aload_n 0, 1) := by decide +kernel
theorem dX10_joins_66 : decode cX10_joins 66 = .ok (.iload 5, 2) := by decide +kernel
theorem dX10_joins_68 : decode cX10_joins 68 = .ok (.iconst 2, 1) := by decide +kernel
theorem dX10_joins_69 : decode cX10_joins 69 = .ok (.invokevirtual 250, 3) := by decide +kernel
theorem dX10_joins_72 : decode cX10_joins 72 = .ok (.isub, 1) := by decide +kernel
theorem dX10_joins_73 : decode cX10_joins 73 = .ok (.aload_n 0, 1) := by decide +kernel
theorem dX10_joins_74 : decode cX10_joins 74 = .ok (.getfield 13, 3) := by decide +kernel
theorem dX10_joins_77 : decode cX10_joins 77 = .ok (.iconst 4, 1) := by decide +kernel
theorem dX10_joins_78 : decode cX10_joins 78 = .ok (.iaload, 1) := by decide +kernel
theorem dX10_joins_79 : decode cX10_joins 79 = .ok (.if_icmp .le 5, 3) := by decide +kernel
theorem dX10_joins_82 : decode cX10_joins 82 = .ok (.iconst (-1), 1) := by decide +kernel
theorem dX10_joins_83 : decode cX10_joins 83 = .ok (.ireturn, 1) := by decide +kernel
theorem dX10_joins_84 : decode cX10_joins 84 = .ok (.iload 4, 2) := by decide +kernel
theorem dX10_joins_86 : decode cX10_joins 86 = .ok (.ifCond .lt 27, 3) := by decide +kernel
theorem dX10_joins_89 : decode cX10_joins 89 = .ok (.aload_n 0, 1) := by decide +kernel
theorem dX10_joins_90 : decode cX10_joins 90 = .ok (.iload 5, 2) := by decide +kernel
theorem dX10_joins_92 : decode cX10_joins 92 = .ok (.invokevirtual 253, 3) := by decide +kernel
theorem dX10_joins_95 : decode cX10_joins 95 = .ok (.ifCond .lt 18, 3) := by decide +kernel
theorem dX10_joins_98 : decode cX10_joins 98 = .ok (.aload_n 0, 1) := by decide +kernel
theorem dX10_joins_99 : decode cX10_joins 99 = .ok (.iload 5, 2) := by decide +kernel
theorem dX10_joins_101 : decode cX10_joins 101 = .ok (.invokevirtual 253, 3) := by decide +kernel
theorem dX10_joins_104 : decode cX10_joins 104 = .ok (.iload 4, 2) := by decide +kernel
theorem dX10_joins_106 : decode cX10_joins 106 = .ok (.if_icmp .eq 7, 3) := by decide +kernel
theorem dX10_joins_109 : decode cX10_joins 109 = .ok (.iconst (-1), 1) := by decide +kernel
theorem dX10_joins_110 : decode cX10_joins 110 = .ok (.goto 5, 3) := by decide +kernel
theorem dX10_joins_113 : decode cX10_joins 113 = .ok (.iload 5, 2) := by decide +kernel
theorem dX10_joins_115 : decode cX10_joins 115 = .ok (.ireturn, 1) := by decide +kernel
abbrev m_X10_joins : MD := (yX10_joins, cX10_joins, 7, (some .int))

abbrev w_X10_joins (g : GT) (h0 h1 h2 : Nat) (v0_0 v0_1 v0_2 v0_3 v0_4 v0_5 v0_6 v0_7 v0_8 v0_9 v0_11 v0_12 v0_13 v0_14 v0_15 v0_16 v0_17 v0_18 v0_19 v0_20 v0_22 v0_23 v0_24 v0_25 v0_26 v0_27 v0_28 v0_29 v0_30 v0_31 v0_32 v0_33 v0_34 v0_35 v0_36 v0_37 : Value) (basic1 state2 : Nat → Int32) : va_W := [(h0, .inr (10, [v0_0, v0_1, v0_2, v0_3, v0_4, v0_5, v0_6, v0_7, v0_8, v0_9, .ref h1, v0_11, v0_12, v0_13, v0_14, v0_15, v0_16, v0_17, v0_18, v0_19, v0_20, .ref h2, v0_22, v0_23, v0_24, v0_25, v0_26, v0_27, v0_28, v0_29, v0_30, v0_31, v0_32, v0_33, v0_34, v0_35, v0_36, v0_37])), (h1, aI g 7 basic1), (h2, aI g 2524 state2)]
def f_X10_joins_b115 (F : Nat) (basic1 state2 : Nat → Int32) (s0 : Int32) : Option (Int32) :=
  some s0
def f_X10_joins_b113 (F : Nat) (basic1 state2 : Nat → Int32) (x5 : Int32) : Option (Int32) :=
  f_X10_joins_b115 F basic1 state2 x5
def f_X10_joins_b82 (F : Nat) (basic1 state2 : Nat → Int32) : Option (Int32) :=
  some (-1)
def f_X10_joins_b43 (F : Nat) (k6 : (Int32 × Int32 × Int32 × Int32 × Int32 × Int32) → Option (Int32)) (basic1 state2 : Nat → Int32) (x1 x2 x3 x4 x5 x6 : Int32) : Option (Int32) :=
  k6 (x1, x2, x3, x4, x5, x6 + 1)
def f_X10_joins_h6 (F : Nat) (basic1 state2 : Nat → Int32) (k6 : (Int32 × Int32 × Int32 × Int32 × Int32 × Int32) → Option (Int32)) (x1 x2 x3 x4 x5 x6 : Int32) : Option (Int32) :=
  rd state2 2524 0 fun a1 =>
  if a1 ≤ x6 then
    if x5 < 0 then
      f_X10_joins_b82 F basic1 state2
    else
      bd1 (f_X10_ofPassage F x5 3 state2) fun r4 =>
      if r4 = 0 then
        bd1 (f_X10_ofPassage F x5 2 state2) fun r7 =>
        rd basic1 7 4 fun a9 =>
        if (x3 - r7) ≤ a9 then
          if x4 < 0 then
            f_X10_joins_b113 F basic1 state2 x5
          else
            bd1 (f_X10_tagOf F x5 state2) fun r12 =>
            if r12 < 0 then
              f_X10_joins_b113 F basic1 state2 x5
            else
              bd1 (f_X10_tagOf F x5 state2) fun r15 =>
              if r15 = x4 then
                f_X10_joins_b113 F basic1 state2 x5
              else
                f_X10_joins_b115 F basic1 state2 (-1)
        else
          f_X10_joins_b82 F basic1 state2
      else
        f_X10_joins_b82 F basic1 state2
  else
    bd1 (f_X10_ofPassage F x6 0 state2) fun r18 =>
    if r18 = x1 then
      bd1 (f_X10_ofPassage F x6 1 state2) fun r21 =>
      if r21 = x2 then
        f_X10_joins_b43 F k6 basic1 state2 x1 x2 x3 x4 x6 x6
      else
        f_X10_joins_b43 F k6 basic1 state2 x1 x2 x3 x4 x5 x6
    else
      f_X10_joins_b43 F k6 basic1 state2 x1 x2 x3 x4 x5 x6
def f_X10_joins_L6 (F : Nat) (basic1 state2 : Nat → Int32) (z : Int32 × Int32 × Int32 × Int32 × Int32 × Int32) : Option (Int32) := lp (fun k z => f_X10_joins_h6 F basic1 state2 k z.1 z.2.1 z.2.2.1 z.2.2.2.1 z.2.2.2.2.1 z.2.2.2.2.2) F z
def f_X10_joins (F : Nat) (p1 p2 p3 p4 : Int32) (basic1 state2 : Nat → Int32) : Option (Int32) :=
  f_X10_joins_L6 F basic1 state2 (p1, p2, p3, p4, (-1), 0)
set_option maxHeartbeats 4000000 in
set_option maxRecDepth 100000 in
theorem c_X10_joins (l : Launch) (g : GT) (F : Nat) (h0 h1 h2 : Nat) (v0_0 v0_1 v0_2 v0_3 v0_4 v0_5 v0_6 v0_7 v0_8 v0_9 v0_11 v0_12 v0_13 v0_14 v0_15 v0_16 v0_17 v0_18 v0_19 v0_20 v0_22 v0_23 v0_24 v0_25 v0_26 v0_27 v0_28 v0_29 v0_30 v0_31 v0_32 v0_33 v0_34 v0_35 v0_36 v0_37 : Value) (p1 p2 p3 p4 : Int32) (basic1 state2 : Nat → Int32) (r : Int32) (sz : Nat) (hf : f_X10_joins F p1 p2 p3 p4 basic1 state2 = some r) : CI l m_X10_joins (rml 2 0 0) g (w_X10_joins g h0 h1 h2 v0_0 v0_1 v0_2 v0_3 v0_4 v0_5 v0_6 v0_7 v0_8 v0_9 v0_11 v0_12 v0_13 v0_14 v0_15 v0_16 v0_17 v0_18 v0_19 v0_20 v0_22 v0_23 v0_24 v0_25 v0_26 v0_27 v0_28 v0_29 v0_30 v0_31 v0_32 v0_33 v0_34 v0_35 v0_36 v0_37 basic1 state2) (fun _ => w_X10_joins g h0 h1 h2 v0_0 v0_1 v0_2 v0_3 v0_4 v0_5 v0_6 v0_7 v0_8 v0_9 v0_11 v0_12 v0_13 v0_14 v0_15 v0_16 v0_17 v0_18 v0_19 v0_20 v0_22 v0_23 v0_24 v0_25 v0_26 v0_27 v0_28 v0_29 v0_30 v0_31 v0_32 v0_33 v0_34 v0_35 v0_36 v0_37 basic1 state2) sz [.ref h0, .int p1, .int p2, .int p3, .int p4] r := by
  refine en_i (by decide) (Nat.le_of_ble_eq_true rfl) (fun p e s m args below meth c A ls C w hl => ?_)
  have C : Cx p s m args meth c RX10 m_X10_joins g A := C
  have hx := C.1
  have hb : c.code = cX10_joins := C.2.1
  have hl : lv_has ls 7 [(0, .ref h0), (1, .int p1), (2, .int p2), (3, .int p3), (4, .int p4)] := hl
  obtain ⟨Q, hQ⟩ : ∃ Q, Q = QI below args s g A (fun _ => w_X10_joins g h0 h1 h2 v0_0 v0_1 v0_2 v0_3 v0_4 v0_5 v0_6 v0_7 v0_8 v0_9 v0_11 v0_12 v0_13 v0_14 v0_15 v0_16 v0_17 v0_18 v0_19 v0_20 v0_22 v0_23 v0_24 v0_25 v0_26 v0_27 v0_28 v0_29 v0_30 v0_31 v0_32 v0_33 v0_34 v0_35 v0_36 v0_37 basic1 state2) r 0 0 := ⟨_, rfl⟩
  suffices hW : W p l e (rml 2 0 0) s m args below meth c s.heap [] 0 0 Q (F0 m 0 ls []) from (by rw [hQ] at hW; exact hW)
  unfold f_X10_joins at hf
  have b115 : ∀ (s0 : Int32) (H : Heap) (locs : List Loc) (ls : Array Slot), f_X10_joins_b115 F basic1 state2 s0 = some r → Wd g A (w_X10_joins g h0 h1 h2 v0_0 v0_1 v0_2 v0_3 v0_4 v0_5 v0_6 v0_7 v0_8 v0_9 v0_11 v0_12 v0_13 v0_14 v0_15 v0_16 v0_17 v0_18 v0_19 v0_20 v0_22 v0_23 v0_24 v0_25 v0_26 v0_27 v0_28 v0_29 v0_30 v0_31 v0_32 v0_33 v0_34 v0_35 v0_36 v0_37 basic1 state2) s.heap H locs → lv_has ls 7 [] → W p l e (rml 2 0 0) s m args below meth c H locs 0 0 Q (F0 m 115 ls [.int s0]) := by
    intro s0 H locs ls hf w hl
    unfold f_X10_joins_b115 at hf
    obtain e1 := tp1 hf
    rw [hQ]
    exact rt_i C w rfl (fun _ => 0) rfl e1 dX10_joins_115
  have b113 : ∀ (x5 : Int32) (H : Heap) (locs : List Loc) (ls : Array Slot), f_X10_joins_b113 F basic1 state2 x5 = some r → Wd g A (w_X10_joins g h0 h1 h2 v0_0 v0_1 v0_2 v0_3 v0_4 v0_5 v0_6 v0_7 v0_8 v0_9 v0_11 v0_12 v0_13 v0_14 v0_15 v0_16 v0_17 v0_18 v0_19 v0_20 v0_22 v0_23 v0_24 v0_25 v0_26 v0_27 v0_28 v0_29 v0_30 v0_31 v0_32 v0_33 v0_34 v0_35 v0_36 v0_37 basic1 state2) s.heap H locs → lv_has ls 7 [(5, .int x5)] → W p l e (rml 2 0 0) s m args below meth c H locs 0 0 Q (F0 m 113 ls []) := by
    intro x5 H locs ls hf w hl
    unfold f_X10_joins_b113 at hf
    refine lv_iload hx hb dX10_joins_113 (lv_at hl 0 rfl) ?_
    exact b115 x5 _ _ _ hf w (lv_sub hl [] rfl)
  have b82 : ∀ (H : Heap) (locs : List Loc) (ls : Array Slot), f_X10_joins_b82 F basic1 state2 = some r → Wd g A (w_X10_joins g h0 h1 h2 v0_0 v0_1 v0_2 v0_3 v0_4 v0_5 v0_6 v0_7 v0_8 v0_9 v0_11 v0_12 v0_13 v0_14 v0_15 v0_16 v0_17 v0_18 v0_19 v0_20 v0_22 v0_23 v0_24 v0_25 v0_26 v0_27 v0_28 v0_29 v0_30 v0_31 v0_32 v0_33 v0_34 v0_35 v0_36 v0_37 basic1 state2) s.heap H locs → lv_has ls 7 [] → W p l e (rml 2 0 0) s m args below meth c H locs 0 0 Q (F0 m 82 ls []) := by
    intro  H locs ls hf w hl
    unfold f_X10_joins_b82 at hf
    refine lv_iconst (v := -1) hx hb dX10_joins_82 (by decide) ?_
    obtain e1 := tp1 hf
    rw [hQ]
    exact rt_i C w rfl (fun _ => 0) rfl e1 dX10_joins_83
  have L6 : ∀ (z : Int32 × Int32 × Int32 × Int32 × Int32 × Int32), f_X10_joins_L6 F basic1 state2 z = some r → ∀ (H : Heap) (locs : List Loc) (ls : Array Slot), Wd g A (w_X10_joins g h0 h1 h2 v0_0 v0_1 v0_2 v0_3 v0_4 v0_5 v0_6 v0_7 v0_8 v0_9 v0_11 v0_12 v0_13 v0_14 v0_15 v0_16 v0_17 v0_18 v0_19 v0_20 v0_22 v0_23 v0_24 v0_25 v0_26 v0_27 v0_28 v0_29 v0_30 v0_31 v0_32 v0_33 v0_34 v0_35 v0_36 v0_37 basic1 state2) s.heap H locs → lv_has ls 7 [(0, .ref h0), (1, .int z.1), (2, .int z.2.1), (3, .int z.2.2.1), (4, .int z.2.2.2.1), (5, .int z.2.2.2.2.1), (6, .int z.2.2.2.2.2)] → W p l e (rml 2 0 0) s m args below meth c H locs 0 0 Q (F0 m 6 ls []) := by
    intro z hf
    refine lp_W (r := r) (fun (z : Int32 × Int32 × Int32 × Int32 × Int32 × Int32) => ∀ (H : Heap) (locs : List Loc) (ls : Array Slot), Wd g A (w_X10_joins g h0 h1 h2 v0_0 v0_1 v0_2 v0_3 v0_4 v0_5 v0_6 v0_7 v0_8 v0_9 v0_11 v0_12 v0_13 v0_14 v0_15 v0_16 v0_17 v0_18 v0_19 v0_20 v0_22 v0_23 v0_24 v0_25 v0_26 v0_27 v0_28 v0_29 v0_30 v0_31 v0_32 v0_33 v0_34 v0_35 v0_36 v0_37 basic1 state2) s.heap H locs → lv_has ls 7 [(0, .ref h0), (1, .int z.1), (2, .int z.2.1), (3, .int z.2.2.1), (4, .int z.2.2.2.1), (5, .int z.2.2.2.2.1), (6, .int z.2.2.2.2.2)] → W p l e (rml 2 0 0) s m args below meth c H locs 0 0 Q (F0 m 6 ls [])) (fun k6 z ih6 hf => ?_) F z hf
    obtain ⟨x1, x2, x3, x4, x5, x6⟩ := z
    intro H locs ls w hl
    try dsimp only at hf w hl ⊢
    unfold f_X10_joins_h6 at hf
    have b43 : ∀ (x1 x2 x3 x4 x5 x6 : Int32) (H : Heap) (locs : List Loc) (ls : Array Slot), f_X10_joins_b43 F k6 basic1 state2 x1 x2 x3 x4 x5 x6 = some r → Wd g A (w_X10_joins g h0 h1 h2 v0_0 v0_1 v0_2 v0_3 v0_4 v0_5 v0_6 v0_7 v0_8 v0_9 v0_11 v0_12 v0_13 v0_14 v0_15 v0_16 v0_17 v0_18 v0_19 v0_20 v0_22 v0_23 v0_24 v0_25 v0_26 v0_27 v0_28 v0_29 v0_30 v0_31 v0_32 v0_33 v0_34 v0_35 v0_36 v0_37 basic1 state2) s.heap H locs → lv_has ls 7 [(0, .ref h0), (1, .int x1), (2, .int x2), (3, .int x3), (4, .int x4), (5, .int x5), (6, .int x6)] → W p l e (rml 2 0 0) s m args below meth c H locs 0 0 Q (F0 m 43 ls []) := by
      intro x1 x2 x3 x4 x5 x6 H locs ls hf w hl
      unfold f_X10_joins_b43 at hf
      refine lv_iinc (v := x6 + 1) (lv' := [(6, .int (x6 + 1)), (0, .ref h0), (1, .int x1), (2, .int x2), (3, .int x3), (4, .int x4), (5, .int x5)]) hx hb dX10_joins_43 hl (k := 6) rfl rfl (by decide) rfl (fun ls hl => ?_)
      refine lv_goto (tgt := 6) hx hb dX10_joins_46 (by decide) ?_
      exact ih6 (x1, x2, x3, x4, x5, x6 + 1) hf _ _ _ w (lv_sub hl [1, 2, 3, 4, 5, 6, 0] rfl)
    refine lv_iload hx hb dX10_joins_6 (lv_at hl 6 rfl) ?_
    refine lv_aload_n hx hb dX10_joins_8 rfl (lv_at hl 0 rfl) ?_
    refine g_X10_44 C w 0 rfl rfl dX10_joins_9 ?_
    refine lv_iconst (v := 0) hx hb dX10_joins_12 (by decide) ?_
    obtain ⟨a1, hia1, haa1, hf⟩ := rd_some hf
    refine ial C w 2 rfl hia1 haa1 dX10_joins_13 ?_
    refine lv_icmp_ge (tgt := 49) hx hb dX10_joins_14 (by decide) (fun c2 => ?_) (fun c2 => ?_)
    · replace hf := it_t c2 hf
      refine lv_iload hx hb dX10_joins_49 (lv_at hl 5 rfl) ?_
      refine lv_if_lt (tgt := 82) hx hb dX10_joins_51 (by decide) (fun c3 => ?_) (fun c3 => ?_)
      · replace hf := it_t c3 hf
        exact b82  _ _ _ hf w (lv_sub hl [] rfl)
      · replace hf := it_f c3 hf
        refine lv_aload_n hx hb dX10_joins_54 rfl (lv_at hl 0 rfl) ?_
        refine lv_iload hx hb dX10_joins_55 (lv_at hl 5 rfl) ?_
        refine lv_iconst (v := 3) hx hb dX10_joins_57 (by decide) ?_
        obtain ⟨r4, hc5, hf⟩ := bd1_some hf
        refine ca_iV C w (wn := fun _ => w_X10_joins g h0 h1 h2 v0_0 v0_1 v0_2 v0_3 v0_4 v0_5 v0_6 v0_7 v0_8 v0_9 v0_11 v0_12 v0_13 v0_14 v0_15 v0_16 v0_17 v0_18 v0_19 v0_20 v0_22 v0_23 v0_24 v0_25 v0_26 v0_27 v0_28 v0_29 v0_30 v0_31 v0_32 v0_33 v0_34 v0_35 v0_36 v0_37 basic1 state2) (pm_k [true, false, true] rfl rfl (fun _ => Nat.le_of_ble_eq_true rfl) (fun _ => rfl)) (c_X10_ofPassage l g F h0 h2 v0_0 v0_1 v0_2 v0_3 v0_4 v0_5 v0_6 v0_7 v0_8 v0_9 (.ref h1) v0_11 v0_12 v0_13 v0_14 v0_15 v0_16 v0_17 v0_18 v0_19 v0_20 v0_22 v0_23 v0_24 v0_25 v0_26 v0_27 v0_28 v0_29 v0_30 v0_31 v0_32 v0_33 v0_34 v0_35 v0_36 v0_37 x5 3 state2 r4 _ hc5) k_X10_250 (rm_le (by decide) (by decide)) 0 10 rfl rfl rfl rfl hl.1 rfl (Nat.le_of_ble_eq_true rfl) dX10_joins_58 ⟨Nat.le_of_ble_eq_true rfl, Nat.le_of_ble_eq_true rfl⟩ (cells2 := 0) (slots2 := 0) ⟨rfl, rfl⟩ (fun _ H locs w => ?_)
        refine lv_if_ne (tgt := 82) hx hb dX10_joins_61 (by decide) (fun c6 => ?_) (fun c6 => ?_)
        · replace hf := it_f c6 hf
          exact b82  _ _ _ hf w (lv_sub hl [] rfl)
        · replace hf := it_t c6 hf
          refine lv_iload_n hx hb dX10_joins_64 rfl (lv_at hl 3 rfl) ?_
          refine lv_aload_n hx hb dX10_joins_65 rfl (lv_at hl 0 rfl) ?_
          refine lv_iload hx hb dX10_joins_66 (lv_at hl 5 rfl) ?_
          refine lv_iconst (v := 2) hx hb dX10_joins_68 (by decide) ?_
          obtain ⟨r7, hc8, hf⟩ := bd1_some hf
          refine ca_iV C w (wn := fun _ => w_X10_joins g h0 h1 h2 v0_0 v0_1 v0_2 v0_3 v0_4 v0_5 v0_6 v0_7 v0_8 v0_9 v0_11 v0_12 v0_13 v0_14 v0_15 v0_16 v0_17 v0_18 v0_19 v0_20 v0_22 v0_23 v0_24 v0_25 v0_26 v0_27 v0_28 v0_29 v0_30 v0_31 v0_32 v0_33 v0_34 v0_35 v0_36 v0_37 basic1 state2) (pm_k [true, false, true] rfl rfl (fun _ => Nat.le_of_ble_eq_true rfl) (fun _ => rfl)) (c_X10_ofPassage l g F h0 h2 v0_0 v0_1 v0_2 v0_3 v0_4 v0_5 v0_6 v0_7 v0_8 v0_9 (.ref h1) v0_11 v0_12 v0_13 v0_14 v0_15 v0_16 v0_17 v0_18 v0_19 v0_20 v0_22 v0_23 v0_24 v0_25 v0_26 v0_27 v0_28 v0_29 v0_30 v0_31 v0_32 v0_33 v0_34 v0_35 v0_36 v0_37 x5 2 state2 r7 _ hc8) k_X10_250 (rm_le (by decide) (by decide)) 0 10 rfl rfl rfl rfl hl.1 rfl (Nat.le_of_ble_eq_true rfl) dX10_joins_69 ⟨Nat.le_of_ble_eq_true rfl, Nat.le_of_ble_eq_true rfl⟩ (cells2 := 0) (slots2 := 0) ⟨rfl, rfl⟩ (fun _ H locs w => ?_)
          refine lv_isub hx hb dX10_joins_72 ?_
          refine lv_aload_n hx hb dX10_joins_73 rfl (lv_at hl 0 rfl) ?_
          refine g_X10_13 C w 0 rfl rfl dX10_joins_74 ?_
          refine lv_iconst (v := 4) hx hb dX10_joins_77 (by decide) ?_
          obtain ⟨a9, hia9, haa9, hf⟩ := rd_some hf
          refine ial C w 1 rfl hia9 haa9 dX10_joins_78 ?_
          refine lv_icmp_le (tgt := 84) hx hb dX10_joins_79 (by decide) (fun c10 => ?_) (fun c10 => ?_)
          · replace hf := it_t c10 hf
            refine lv_iload hx hb dX10_joins_84 (lv_at hl 4 rfl) ?_
            refine lv_if_lt (tgt := 113) hx hb dX10_joins_86 (by decide) (fun c11 => ?_) (fun c11 => ?_)
            · replace hf := it_t c11 hf
              exact b113 x5 _ _ _ hf w (lv_sub hl [5] rfl)
            · replace hf := it_f c11 hf
              refine lv_aload_n hx hb dX10_joins_89 rfl (lv_at hl 0 rfl) ?_
              refine lv_iload hx hb dX10_joins_90 (lv_at hl 5 rfl) ?_
              obtain ⟨r12, hc13, hf⟩ := bd1_some hf
              refine ca_iV C w (wn := fun _ => w_X10_joins g h0 h1 h2 v0_0 v0_1 v0_2 v0_3 v0_4 v0_5 v0_6 v0_7 v0_8 v0_9 v0_11 v0_12 v0_13 v0_14 v0_15 v0_16 v0_17 v0_18 v0_19 v0_20 v0_22 v0_23 v0_24 v0_25 v0_26 v0_27 v0_28 v0_29 v0_30 v0_31 v0_32 v0_33 v0_34 v0_35 v0_36 v0_37 basic1 state2) (pm_k [true, false, true] rfl rfl (fun _ => Nat.le_of_ble_eq_true rfl) (fun _ => rfl)) (c_X10_tagOf l g F h0 h2 v0_0 v0_1 v0_2 v0_3 v0_4 v0_5 v0_6 v0_7 v0_8 v0_9 (.ref h1) v0_11 v0_12 v0_13 v0_14 v0_15 v0_16 v0_17 v0_18 v0_19 v0_20 v0_22 v0_23 v0_24 v0_25 v0_26 v0_27 v0_28 v0_29 v0_30 v0_31 v0_32 v0_33 v0_34 v0_35 v0_36 v0_37 x5 state2 r12 _ hc13) k_X10_253 (rm_le (by decide) (by decide)) 0 10 rfl rfl rfl rfl hl.1 rfl (Nat.le_of_ble_eq_true rfl) dX10_joins_92 ⟨Nat.le_of_ble_eq_true rfl, Nat.le_of_ble_eq_true rfl⟩ (cells2 := 0) (slots2 := 0) ⟨rfl, rfl⟩ (fun _ H locs w => ?_)
              refine lv_if_lt (tgt := 113) hx hb dX10_joins_95 (by decide) (fun c14 => ?_) (fun c14 => ?_)
              · replace hf := it_t c14 hf
                exact b113 x5 _ _ _ hf w (lv_sub hl [5] rfl)
              · replace hf := it_f c14 hf
                refine lv_aload_n hx hb dX10_joins_98 rfl (lv_at hl 0 rfl) ?_
                refine lv_iload hx hb dX10_joins_99 (lv_at hl 5 rfl) ?_
                obtain ⟨r15, hc16, hf⟩ := bd1_some hf
                refine ca_iV C w (wn := fun _ => w_X10_joins g h0 h1 h2 v0_0 v0_1 v0_2 v0_3 v0_4 v0_5 v0_6 v0_7 v0_8 v0_9 v0_11 v0_12 v0_13 v0_14 v0_15 v0_16 v0_17 v0_18 v0_19 v0_20 v0_22 v0_23 v0_24 v0_25 v0_26 v0_27 v0_28 v0_29 v0_30 v0_31 v0_32 v0_33 v0_34 v0_35 v0_36 v0_37 basic1 state2) (pm_k [true, false, true] rfl rfl (fun _ => Nat.le_of_ble_eq_true rfl) (fun _ => rfl)) (c_X10_tagOf l g F h0 h2 v0_0 v0_1 v0_2 v0_3 v0_4 v0_5 v0_6 v0_7 v0_8 v0_9 (.ref h1) v0_11 v0_12 v0_13 v0_14 v0_15 v0_16 v0_17 v0_18 v0_19 v0_20 v0_22 v0_23 v0_24 v0_25 v0_26 v0_27 v0_28 v0_29 v0_30 v0_31 v0_32 v0_33 v0_34 v0_35 v0_36 v0_37 x5 state2 r15 _ hc16) k_X10_253 (rm_le (by decide) (by decide)) 0 10 rfl rfl rfl rfl hl.1 rfl (Nat.le_of_ble_eq_true rfl) dX10_joins_101 ⟨Nat.le_of_ble_eq_true rfl, Nat.le_of_ble_eq_true rfl⟩ (cells2 := 0) (slots2 := 0) ⟨rfl, rfl⟩ (fun _ H locs w => ?_)
                refine lv_iload hx hb dX10_joins_104 (lv_at hl 4 rfl) ?_
                refine lv_icmp_eq (tgt := 113) hx hb dX10_joins_106 (by decide) (fun c17 => ?_) (fun c17 => ?_)
                · replace hf := it_t c17 hf
                  exact b113 x5 _ _ _ hf w (lv_sub hl [5] rfl)
                · replace hf := it_f c17 hf
                  refine lv_iconst (v := -1) hx hb dX10_joins_109 (by decide) ?_
                  refine lv_goto (tgt := 115) hx hb dX10_joins_110 (by decide) ?_
                  exact b115 (-1) _ _ _ hf w (lv_sub hl [] rfl)
          · replace hf := it_f c10 hf
            exact b82  _ _ _ hf w (lv_sub hl [] rfl)
    · replace hf := it_f c2 hf
      refine lv_aload_n hx hb dX10_joins_17 rfl (lv_at hl 0 rfl) ?_
      refine lv_iload hx hb dX10_joins_18 (lv_at hl 6 rfl) ?_
      refine lv_iconst (v := 0) hx hb dX10_joins_20 (by decide) ?_
      obtain ⟨r18, hc19, hf⟩ := bd1_some hf
      refine ca_iV C w (wn := fun _ => w_X10_joins g h0 h1 h2 v0_0 v0_1 v0_2 v0_3 v0_4 v0_5 v0_6 v0_7 v0_8 v0_9 v0_11 v0_12 v0_13 v0_14 v0_15 v0_16 v0_17 v0_18 v0_19 v0_20 v0_22 v0_23 v0_24 v0_25 v0_26 v0_27 v0_28 v0_29 v0_30 v0_31 v0_32 v0_33 v0_34 v0_35 v0_36 v0_37 basic1 state2) (pm_k [true, false, true] rfl rfl (fun _ => Nat.le_of_ble_eq_true rfl) (fun _ => rfl)) (c_X10_ofPassage l g F h0 h2 v0_0 v0_1 v0_2 v0_3 v0_4 v0_5 v0_6 v0_7 v0_8 v0_9 (.ref h1) v0_11 v0_12 v0_13 v0_14 v0_15 v0_16 v0_17 v0_18 v0_19 v0_20 v0_22 v0_23 v0_24 v0_25 v0_26 v0_27 v0_28 v0_29 v0_30 v0_31 v0_32 v0_33 v0_34 v0_35 v0_36 v0_37 x6 0 state2 r18 _ hc19) k_X10_250 (rm_le (by decide) (by decide)) 0 10 rfl rfl rfl rfl hl.1 rfl (Nat.le_of_ble_eq_true rfl) dX10_joins_21 ⟨Nat.le_of_ble_eq_true rfl, Nat.le_of_ble_eq_true rfl⟩ (cells2 := 0) (slots2 := 0) ⟨rfl, rfl⟩ (fun _ H locs w => ?_)
      refine lv_iload_n hx hb dX10_joins_24 rfl (lv_at hl 1 rfl) ?_
      refine lv_icmp_ne (tgt := 43) hx hb dX10_joins_25 (by decide) (fun c20 => ?_) (fun c20 => ?_)
      · replace hf := it_f c20 hf
        exact b43 x1 x2 x3 x4 x5 x6 _ _ _ hf w (lv_sub hl [0, 1, 2, 3, 4, 5, 6] rfl)
      · replace hf := it_t c20 hf
        refine lv_aload_n hx hb dX10_joins_28 rfl (lv_at hl 0 rfl) ?_
        refine lv_iload hx hb dX10_joins_29 (lv_at hl 6 rfl) ?_
        refine lv_iconst (v := 1) hx hb dX10_joins_31 (by decide) ?_
        obtain ⟨r21, hc22, hf⟩ := bd1_some hf
        refine ca_iV C w (wn := fun _ => w_X10_joins g h0 h1 h2 v0_0 v0_1 v0_2 v0_3 v0_4 v0_5 v0_6 v0_7 v0_8 v0_9 v0_11 v0_12 v0_13 v0_14 v0_15 v0_16 v0_17 v0_18 v0_19 v0_20 v0_22 v0_23 v0_24 v0_25 v0_26 v0_27 v0_28 v0_29 v0_30 v0_31 v0_32 v0_33 v0_34 v0_35 v0_36 v0_37 basic1 state2) (pm_k [true, false, true] rfl rfl (fun _ => Nat.le_of_ble_eq_true rfl) (fun _ => rfl)) (c_X10_ofPassage l g F h0 h2 v0_0 v0_1 v0_2 v0_3 v0_4 v0_5 v0_6 v0_7 v0_8 v0_9 (.ref h1) v0_11 v0_12 v0_13 v0_14 v0_15 v0_16 v0_17 v0_18 v0_19 v0_20 v0_22 v0_23 v0_24 v0_25 v0_26 v0_27 v0_28 v0_29 v0_30 v0_31 v0_32 v0_33 v0_34 v0_35 v0_36 v0_37 x6 1 state2 r21 _ hc22) k_X10_250 (rm_le (by decide) (by decide)) 0 10 rfl rfl rfl rfl hl.1 rfl (Nat.le_of_ble_eq_true rfl) dX10_joins_32 ⟨Nat.le_of_ble_eq_true rfl, Nat.le_of_ble_eq_true rfl⟩ (cells2 := 0) (slots2 := 0) ⟨rfl, rfl⟩ (fun _ H locs w => ?_)
        refine lv_iload_n hx hb dX10_joins_35 rfl (lv_at hl 2 rfl) ?_
        refine lv_icmp_ne (tgt := 43) hx hb dX10_joins_36 (by decide) (fun c23 => ?_) (fun c23 => ?_)
        · replace hf := it_f c23 hf
          exact b43 x1 x2 x3 x4 x5 x6 _ _ _ hf w (lv_sub hl [0, 1, 2, 3, 4, 5, 6] rfl)
        · replace hf := it_t c23 hf
          refine lv_iload hx hb dX10_joins_39 (lv_at hl 6 rfl) ?_
          refine lv_istore (lv' := [(5, .int x6), (0, .ref h0), (1, .int x1), (2, .int x2), (3, .int x3), (4, .int x4), (6, .int x6)]) hx hb dX10_joins_41 hl (by decide) rfl (fun ls hl => ?_)
          exact b43 x1 x2 x3 x4 x6 x6 _ _ _ hf w (lv_sub hl [1, 2, 3, 4, 5, 0, 6] rfl)
  refine lv_iconst (v := -1) hx hb dX10_joins_0 (by decide) ?_
  refine lv_istore (lv' := [(5, .int (-1)), (0, .ref h0), (1, .int p1), (2, .int p2), (3, .int p3), (4, .int p4)]) hx hb dX10_joins_1 hl (by decide) rfl (fun ls hl => ?_)
  refine lv_iconst (v := 0) hx hb dX10_joins_3 (by decide) ?_
  refine lv_istore (lv' := [(6, .int 0), (5, .int (-1)), (0, .ref h0), (1, .int p1), (2, .int p2), (3, .int p3), (4, .int p4)]) hx hb dX10_joins_4 hl (by decide) rfl (fun ls hl => ?_)
  exact L6 (p1, p2, p3, p4, (-1), 0) hf _ _ _ w (lv_sub hl [2, 3, 4, 5, 6, 1, 0] rfl)

theorem dX10_isReading_0 : decode cX10_isReading 0 = .ok (.aload_n 0, 1) := by decide +kernel
theorem dX10_isReading_1 : decode cX10_isReading 1 = .ok (.iload_n 1, 1) := by decide +kernel
theorem dX10_isReading_2 : decode cX10_isReading 2 = .ok (.invokevirtual 238, 3) := by decide +kernel
theorem dX10_isReading_5 : decode cX10_isReading 5 = .ok (.ifCond .eq 37, 3) := by decide +kernel
theorem dX10_isReading_8 : decode cX10_isReading 8 = .ok (.iload_n 2, 1) := by decide +kernel
theorem dX10_isReading_9 : decode cX10_isReading 9 = .ok (.i2l, 1) := by decide +kernel
theorem dX10_isReading_10 : decode cX10_isReading 10 = .ok (.lconst 0, 1) := by decide +kernel
theorem dX10_isReading_11 : decode cX10_isReading 11 = .ok (.ldc2_w 337, 3) := by decide +kernel
theorem dX10_isReading_14 : decode cX10_isReading 14 = .ok (.invokestatic 115, 3) := by decide +kernel
theorem dX10_isReading_17 : decode cX10_isReading 17 = .ok (.ifCond .eq 25, 3) := by decide +kernel
theorem dX10_isReading_20 : decode cX10_isReading 20 = .ok (.iload_n 3, 1) := by decide +kernel
theorem dX10_isReading_21 : decode cX10_isReading 21 = .ok (.i2l, 1) := by decide +kernel
theorem dX10_isReading_22 : decode cX10_isReading 22 = .ok (.aload_n 0, 1) := by decide +kernel
theorem dX10_isReading_23 : decode cX10_isReading 23 = .ok (.getfield 44, 3) := by decide +kernel
theorem dX10_isReading_26 : decode cX10_isReading 26 = .ok (.iconst 3, 1) := by decide +kernel
theorem dX10_isReading_27 : decode cX10_isReading 27 = .ok (.iaload, 1) := by decide +kernel
theorem dX10_isReading_28 : decode cX10_isReading 28 = .ok (.i2l, 1) := by decide +kernel
theorem dX10_isReading_29 : decode cX10_isReading 29 = .ok (.ldc2_w 241, 3) := by decide +kernel
theorem dX10_isReading_32 : decode cX10_isReading 32 = .ok (.invokestatic 115, 3) := by decide +kernel
theorem dX10_isReading_35 : decode cX10_isReading 35 = .ok (.ifCond .eq 7, 3) := by decide +kernel
theorem dX10_isReading_38 : decode cX10_isReading 38 = .ok (.iconst 1, 1) := by decide +kernel
theorem dX10_isReading_39 : decode cX10_isReading 39 = .ok (.goto 4, 3) := by decide +kernel
theorem dX10_isReading_42 : decode cX10_isReading 42 = .ok (.iconst 0, 1) := by decide +kernel
theorem dX10_isReading_43 : decode cX10_isReading 43 = .ok (.ireturn, 1) := by decide +kernel
abbrev m_X10_isReading : MD := (yX10_isReading, cX10_isReading, 4, (some .boolean))
theorem q_1700 : Cond.constantLong RX10 337 3 ∈ TS := ts_t 1700 (by decide +kernel) (by decide +kernel)
abbrev w_X10_isReading (g : GT) (h0 h1 h2 : Nat) (v0_0 v0_1 v0_2 v0_3 v0_4 v0_5 v0_6 v0_7 v0_8 v0_9 v0_11 v0_12 v0_13 v0_14 v0_15 v0_16 v0_17 v0_18 v0_19 v0_20 v0_22 v0_23 v0_24 v0_25 v0_26 v0_27 v0_28 v0_29 v0_30 v0_31 v0_32 v0_33 v0_34 v0_35 v0_36 v0_37 : Value) (basic1 state2 : Nat → Int32) : va_W := [(h0, .inr (10, [v0_0, v0_1, v0_2, v0_3, v0_4, v0_5, v0_6, v0_7, v0_8, v0_9, .ref h1, v0_11, v0_12, v0_13, v0_14, v0_15, v0_16, v0_17, v0_18, v0_19, v0_20, .ref h2, v0_22, v0_23, v0_24, v0_25, v0_26, v0_27, v0_28, v0_29, v0_30, v0_31, v0_32, v0_33, v0_34, v0_35, v0_36, v0_37])), (h1, aI g 7 basic1), (h2, aI g 2524 state2)]
def f_X10_isReading_b43 (F : Nat) (basic1 state2 : Nat → Int32) (s0 : Int32) : Option (Int32) :=
  gd (s0 = 0 ∨ s0 = 1) (some s0)
def f_X10_isReading_b42 (F : Nat) (basic1 state2 : Nat → Int32) : Option (Int32) :=
  f_X10_isReading_b43 F basic1 state2 0
def f_X10_isReading (F : Nat) (p1 p2 p3 : Int32) (basic1 state2 : Nat → Int32) : Option (Int32) :=
  bd1 (f_X10_isGantry F p1 basic1) fun r1 =>
  if r1 = 0 then
    f_X10_isReading_b42 F basic1 state2
  else
    bd1 (f_X10_within F p2.toInt64 0 3) fun r4 =>
    if r4 = 0 then
      f_X10_isReading_b42 F basic1 state2
    else
      rd state2 2524 3 fun a7 =>
      bd1 (f_X10_within F p3.toInt64 a7.toInt64 99999) fun r8 =>
      if r8 = 0 then
        f_X10_isReading_b42 F basic1 state2
      else
        f_X10_isReading_b43 F basic1 state2 1
set_option maxHeartbeats 4000000 in
set_option maxRecDepth 100000 in
theorem c_X10_isReading (l : Launch) (g : GT) (F : Nat) (h0 h1 h2 : Nat) (v0_0 v0_1 v0_2 v0_3 v0_4 v0_5 v0_6 v0_7 v0_8 v0_9 v0_11 v0_12 v0_13 v0_14 v0_15 v0_16 v0_17 v0_18 v0_19 v0_20 v0_22 v0_23 v0_24 v0_25 v0_26 v0_27 v0_28 v0_29 v0_30 v0_31 v0_32 v0_33 v0_34 v0_35 v0_36 v0_37 : Value) (p1 p2 p3 : Int32) (basic1 state2 : Nat → Int32) (r : Int32) (sz : Nat) (hf : f_X10_isReading F p1 p2 p3 basic1 state2 = some r) : CI l m_X10_isReading (rml 2 0 0) g (w_X10_isReading g h0 h1 h2 v0_0 v0_1 v0_2 v0_3 v0_4 v0_5 v0_6 v0_7 v0_8 v0_9 v0_11 v0_12 v0_13 v0_14 v0_15 v0_16 v0_17 v0_18 v0_19 v0_20 v0_22 v0_23 v0_24 v0_25 v0_26 v0_27 v0_28 v0_29 v0_30 v0_31 v0_32 v0_33 v0_34 v0_35 v0_36 v0_37 basic1 state2) (fun _ => w_X10_isReading g h0 h1 h2 v0_0 v0_1 v0_2 v0_3 v0_4 v0_5 v0_6 v0_7 v0_8 v0_9 v0_11 v0_12 v0_13 v0_14 v0_15 v0_16 v0_17 v0_18 v0_19 v0_20 v0_22 v0_23 v0_24 v0_25 v0_26 v0_27 v0_28 v0_29 v0_30 v0_31 v0_32 v0_33 v0_34 v0_35 v0_36 v0_37 basic1 state2) sz [.ref h0, .int p1, .int p2, .int p3] r := by
  refine en_i (by decide) (Nat.le_of_ble_eq_true rfl) (fun p e s m args below meth c A ls C w hl => ?_)
  have C : Cx p s m args meth c RX10 m_X10_isReading g A := C
  have hx := C.1
  have hb : c.code = cX10_isReading := C.2.1
  have hl : lv_has ls 4 [(0, .ref h0), (1, .int p1), (2, .int p2), (3, .int p3)] := hl
  obtain ⟨Q, hQ⟩ : ∃ Q, Q = QI below args s g A (fun _ => w_X10_isReading g h0 h1 h2 v0_0 v0_1 v0_2 v0_3 v0_4 v0_5 v0_6 v0_7 v0_8 v0_9 v0_11 v0_12 v0_13 v0_14 v0_15 v0_16 v0_17 v0_18 v0_19 v0_20 v0_22 v0_23 v0_24 v0_25 v0_26 v0_27 v0_28 v0_29 v0_30 v0_31 v0_32 v0_33 v0_34 v0_35 v0_36 v0_37 basic1 state2) r 0 0 := ⟨_, rfl⟩
  suffices hW : W p l e (rml 2 0 0) s m args below meth c s.heap [] 0 0 Q (F0 m 0 ls []) from (by rw [hQ] at hW; exact hW)
  unfold f_X10_isReading at hf
  have b43 : ∀ (s0 : Int32) (H : Heap) (locs : List Loc) (ls : Array Slot), f_X10_isReading_b43 F basic1 state2 s0 = some r → Wd g A (w_X10_isReading g h0 h1 h2 v0_0 v0_1 v0_2 v0_3 v0_4 v0_5 v0_6 v0_7 v0_8 v0_9 v0_11 v0_12 v0_13 v0_14 v0_15 v0_16 v0_17 v0_18 v0_19 v0_20 v0_22 v0_23 v0_24 v0_25 v0_26 v0_27 v0_28 v0_29 v0_30 v0_31 v0_32 v0_33 v0_34 v0_35 v0_36 v0_37 basic1 state2) s.heap H locs → lv_has ls 4 [] → W p l e (rml 2 0 0) s m args below meth c H locs 0 0 Q (F0 m 43 ls [.int s0]) := by
    intro s0 H locs ls hf w hl
    unfold f_X10_isReading_b43 at hf
    obtain ⟨h01, hf⟩ := gd_some hf
    obtain e1 := tp1 hf
    rw [hQ]
    exact rt_z C w rfl h01 (fun _ => 0) rfl e1 dX10_isReading_43
  have b42 : ∀ (H : Heap) (locs : List Loc) (ls : Array Slot), f_X10_isReading_b42 F basic1 state2 = some r → Wd g A (w_X10_isReading g h0 h1 h2 v0_0 v0_1 v0_2 v0_3 v0_4 v0_5 v0_6 v0_7 v0_8 v0_9 v0_11 v0_12 v0_13 v0_14 v0_15 v0_16 v0_17 v0_18 v0_19 v0_20 v0_22 v0_23 v0_24 v0_25 v0_26 v0_27 v0_28 v0_29 v0_30 v0_31 v0_32 v0_33 v0_34 v0_35 v0_36 v0_37 basic1 state2) s.heap H locs → lv_has ls 4 [] → W p l e (rml 2 0 0) s m args below meth c H locs 0 0 Q (F0 m 42 ls []) := by
    intro  H locs ls hf w hl
    unfold f_X10_isReading_b42 at hf
    refine lv_iconst (v := 0) hx hb dX10_isReading_42 (by decide) ?_
    exact b43 0 _ _ _ hf w (lv_sub hl [] rfl)
  refine lv_aload_n hx hb dX10_isReading_0 rfl (lv_at hl 0 rfl) ?_
  refine lv_iload_n hx hb dX10_isReading_1 rfl (lv_at hl 1 rfl) ?_
  obtain ⟨r1, hc2, hf⟩ := bd1_some hf
  refine ca_iV C w (wn := fun _ => w_X10_isReading g h0 h1 h2 v0_0 v0_1 v0_2 v0_3 v0_4 v0_5 v0_6 v0_7 v0_8 v0_9 v0_11 v0_12 v0_13 v0_14 v0_15 v0_16 v0_17 v0_18 v0_19 v0_20 v0_22 v0_23 v0_24 v0_25 v0_26 v0_27 v0_28 v0_29 v0_30 v0_31 v0_32 v0_33 v0_34 v0_35 v0_36 v0_37 basic1 state2) (pm_k [true, true, false] rfl rfl (fun _ => Nat.le_of_ble_eq_true rfl) (fun _ => rfl)) (c_X10_isGantry l g F h0 h1 v0_0 v0_1 v0_2 v0_3 v0_4 v0_5 v0_6 v0_7 v0_8 v0_9 v0_11 v0_12 v0_13 v0_14 v0_15 v0_16 v0_17 v0_18 v0_19 v0_20 (.ref h2) v0_22 v0_23 v0_24 v0_25 v0_26 v0_27 v0_28 v0_29 v0_30 v0_31 v0_32 v0_33 v0_34 v0_35 v0_36 v0_37 p1 basic1 r1 _ hc2) k_X10_238 (rm_le (by decide) (by decide)) 0 10 rfl rfl rfl rfl hl.1 rfl (Nat.le_of_ble_eq_true rfl) dX10_isReading_2 ⟨Nat.le_of_ble_eq_true rfl, Nat.le_of_ble_eq_true rfl⟩ (cells2 := 0) (slots2 := 0) ⟨rfl, rfl⟩ (fun _ H locs w => ?_)
  refine lv_if_eq (tgt := 42) hx hb dX10_isReading_5 (by decide) (fun c3 => ?_) (fun c3 => ?_)
  · replace hf := it_t c3 hf
    exact b42  _ _ _ hf w (lv_sub hl [] rfl)
  · replace hf := it_f c3 hf
    refine lv_iload_n hx hb dX10_isReading_8 rfl (lv_at hl 2 rfl) ?_
    refine lv_i2l (v := p2.toInt64) hx hb dX10_isReading_9 rfl ?_
    refine lv_lconst (v := 0) hx hb dX10_isReading_10 (by decide) ?_
    refine lv_ldc2 (v := 3) hx hb C.2.2.2.1 (C.2.2.2.2.1 _ q_1700) dX10_isReading_11 ?_
    obtain ⟨r4, hc5, hf⟩ := bd1_some hf
    refine ca_iS C w (wn := fun _ => w_X10_isReading g h0 h1 h2 v0_0 v0_1 v0_2 v0_3 v0_4 v0_5 v0_6 v0_7 v0_8 v0_9 v0_11 v0_12 v0_13 v0_14 v0_15 v0_16 v0_17 v0_18 v0_19 v0_20 v0_22 v0_23 v0_24 v0_25 v0_26 v0_27 v0_28 v0_29 v0_30 v0_31 v0_32 v0_33 v0_34 v0_35 v0_36 v0_37 basic1 state2) (pm_k [false, false, false] rfl rfl (fun _ => Nat.le_of_ble_eq_true rfl) (fun _ => rfl)) (c_X10_within l g F p2.toInt64 0 3 r4 _ hc5) k_X10_115 (rm_le (by decide) (by decide)) rfl hl.1 rfl (Nat.le_of_ble_eq_true rfl) dX10_isReading_14 ⟨Nat.le_of_ble_eq_true rfl, Nat.le_of_ble_eq_true rfl⟩ (cells2 := 0) (slots2 := 0) ⟨rfl, rfl⟩ (fun _ H locs w => ?_)
    refine lv_if_eq (tgt := 42) hx hb dX10_isReading_17 (by decide) (fun c6 => ?_) (fun c6 => ?_)
    · replace hf := it_t c6 hf
      exact b42  _ _ _ hf w (lv_sub hl [] rfl)
    · replace hf := it_f c6 hf
      refine lv_iload_n hx hb dX10_isReading_20 rfl (lv_at hl 3 rfl) ?_
      refine lv_i2l (v := p3.toInt64) hx hb dX10_isReading_21 rfl ?_
      refine lv_aload_n hx hb dX10_isReading_22 rfl (lv_at hl 0 rfl) ?_
      refine g_X10_44 C w 0 rfl rfl dX10_isReading_23 ?_
      refine lv_iconst (v := 3) hx hb dX10_isReading_26 (by decide) ?_
      obtain ⟨a7, hia7, haa7, hf⟩ := rd_some hf
      refine ial C w 2 rfl hia7 haa7 dX10_isReading_27 ?_
      refine lv_i2l (v := a7.toInt64) hx hb dX10_isReading_28 rfl ?_
      refine lv_ldc2 (v := 99999) hx hb C.2.2.2.1 (C.2.2.2.2.1 _ q_1467) dX10_isReading_29 ?_
      obtain ⟨r8, hc9, hf⟩ := bd1_some hf
      refine ca_iS C w (wn := fun _ => w_X10_isReading g h0 h1 h2 v0_0 v0_1 v0_2 v0_3 v0_4 v0_5 v0_6 v0_7 v0_8 v0_9 v0_11 v0_12 v0_13 v0_14 v0_15 v0_16 v0_17 v0_18 v0_19 v0_20 v0_22 v0_23 v0_24 v0_25 v0_26 v0_27 v0_28 v0_29 v0_30 v0_31 v0_32 v0_33 v0_34 v0_35 v0_36 v0_37 basic1 state2) (pm_k [false, false, false] rfl rfl (fun _ => Nat.le_of_ble_eq_true rfl) (fun _ => rfl)) (c_X10_within l g F p3.toInt64 a7.toInt64 99999 r8 _ hc9) k_X10_115 (rm_le (by decide) (by decide)) rfl hl.1 rfl (Nat.le_of_ble_eq_true rfl) dX10_isReading_32 ⟨Nat.le_of_ble_eq_true rfl, Nat.le_of_ble_eq_true rfl⟩ (cells2 := 0) (slots2 := 0) ⟨rfl, rfl⟩ (fun _ H locs w => ?_)
      refine lv_if_eq (tgt := 42) hx hb dX10_isReading_35 (by decide) (fun c10 => ?_) (fun c10 => ?_)
      · replace hf := it_t c10 hf
        exact b42  _ _ _ hf w (lv_sub hl [] rfl)
      · replace hf := it_f c10 hf
        refine lv_iconst (v := 1) hx hb dX10_isReading_38 (by decide) ?_
        refine lv_goto (tgt := 43) hx hb dX10_isReading_39 (by decide) ?_
        exact b43 1 _ _ _ hf w (lv_sub hl [] rfl)

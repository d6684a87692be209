section
-- ===== PART A: goes FIRST, ahead of the names: the tables' words, and 'selects' of the private methods out of them =====
/-- a private method of a class that the tables say can be made, by its rows of tables_1 -/
def lw_okq (q : MethodName × Nat) : Prop := (q.1.cls ≠ "java/lang/invoke/MethodHandle" ∧ q.1.cls ≠ "java/lang/invoke/VarHandle") ∧ Cond.instantiable q.1.cls q.2 ∈ tables_1 ∧ Cond.privateMethod q.1 ∈ tables_1 ∧ Cond.instanceMethod q.1 ∈ tables_1
theorem lw_p0 : lw_okq (⟨"CourseEnrolment", "participants", "()I"⟩, 6) := ⟨⟨by decide +kernel, by decide +kernel⟩, List.mem_of_getElem? (i := 14) (by decide +kernel), List.mem_of_getElem? (i := 152) (by decide +kernel), List.mem_of_getElem? (i := 153) (by decide +kernel)⟩
theorem lw_p1 : lw_okq (⟨"CourseEnrolment", "pointAll", "(I)V"⟩, 6) := ⟨⟨by decide +kernel, by decide +kernel⟩, List.mem_of_getElem? (i := 14) (by decide +kernel), List.mem_of_getElem? (i := 159) (by decide +kernel), List.mem_of_getElem? (i := 160) (by decide +kernel)⟩
theorem lw_p2 : lw_okq (⟨"CourseEnrolment", "targetOf", "(LCourseEnrolment$Student;I)I"⟩, 6) := ⟨⟨by decide +kernel, by decide +kernel⟩, List.mem_of_getElem? (i := 14) (by decide +kernel), List.mem_of_getElem? (i := 166) (by decide +kernel), List.mem_of_getElem? (i := 167) (by decide +kernel)⟩
theorem lw_p3 : lw_okq (⟨"CourseEnrolment", "courseAt", "(I)LCourseEnrolment$Course;"⟩, 6) := ⟨⟨by decide +kernel, by decide +kernel⟩, List.mem_of_getElem? (i := 14) (by decide +kernel), List.mem_of_getElem? (i := 178) (by decide +kernel), List.mem_of_getElem? (i := 179) (by decide +kernel)⟩
theorem lw_p4 : lw_okq (⟨"java/lang/Throwable", "fillInStackTrace", "(I)Ljava/lang/Throwable;"⟩, 6) := ⟨⟨by decide +kernel, by decide +kernel⟩, List.mem_of_getElem? (i := 220) (by decide +kernel), List.mem_of_getElem? (i := 218) (by decide +kernel), List.mem_of_getElem? (i := 219) (by decide +kernel)⟩
theorem lw_p5 : lw_okq (⟨"CourseEnrolment", "firstWhoPutUp", "(II)I"⟩, 6) := ⟨⟨by decide +kernel, by decide +kernel⟩, List.mem_of_getElem? (i := 14) (by decide +kernel), List.mem_of_getElem? (i := 250) (by decide +kernel), List.mem_of_getElem? (i := 251) (by decide +kernel)⟩
theorem lw_p6 : lw_okq (⟨"CourseEnrolment", "isAcceptable", "(LCourseEnrolment$Student;LCourseEnrolment$Course;)Z"⟩, 6) := ⟨⟨by decide +kernel, by decide +kernel⟩, List.mem_of_getElem? (i := 14) (by decide +kernel), List.mem_of_getElem? (i := 254) (by decide +kernel), List.mem_of_getElem? (i := 255) (by decide +kernel)⟩
theorem lw_p7 : lw_okq (⟨"CourseEnrolment", "obstacleFor", "(LCourseEnrolment$Student;LCourseEnrolment$Course;I)I"⟩, 6) := ⟨⟨by decide +kernel, by decide +kernel⟩, List.mem_of_getElem? (i := 14) (by decide +kernel), List.mem_of_getElem? (i := 258) (by decide +kernel), List.mem_of_getElem? (i := 259) (by decide +kernel)⟩
theorem lw_p8 : lw_okq (⟨"CourseEnrolment", "creditsOf", "(I)I"⟩, 6) := ⟨⟨by decide +kernel, by decide +kernel⟩, List.mem_of_getElem? (i := 14) (by decide +kernel), List.mem_of_getElem? (i := 262) (by decide +kernel), List.mem_of_getElem? (i := 263) (by decide +kernel)⟩
theorem lw_p9 : lw_okq (⟨"CourseEnrolment", "hoursOf", "(I)I"⟩, 6) := ⟨⟨by decide +kernel, by decide +kernel⟩, List.mem_of_getElem? (i := 14) (by decide +kernel), List.mem_of_getElem? (i := 266) (by decide +kernel), List.mem_of_getElem? (i := 267) (by decide +kernel)⟩
theorem lw_p10 : lw_okq (⟨"CourseEnrolment", "onCircles", "(I)I"⟩, 6) := ⟨⟨by decide +kernel, by decide +kernel⟩, List.mem_of_getElem? (i := 14) (by decide +kernel), List.mem_of_getElem? (i := 270) (by decide +kernel), List.mem_of_getElem? (i := 271) (by decide +kernel)⟩
theorem lw_p11 : lw_okq (⟨"CourseEnrolment", "isOnCircle", "(LCourseEnrolment$Student;)Z"⟩, 6) := ⟨⟨by decide +kernel, by decide +kernel⟩, List.mem_of_getElem? (i := 14) (by decide +kernel), List.mem_of_getElem? (i := 274) (by decide +kernel), List.mem_of_getElem? (i := 275) (by decide +kernel)⟩
theorem lw_p12 : lw_okq (⟨"CourseEnrolment", "studentAt", "(I)LCourseEnrolment$Student;"⟩, 6) := ⟨⟨by decide +kernel, by decide +kernel⟩, List.mem_of_getElem? (i := 14) (by decide +kernel), List.mem_of_getElem? (i := 278) (by decide +kernel), List.mem_of_getElem? (i := 279) (by decide +kernel)⟩
theorem lw_p13 : lw_okq (⟨"CourseEnrolment", "movePlaces", "(I)I"⟩, 6) := ⟨⟨by decide +kernel, by decide +kernel⟩, List.mem_of_getElem? (i := 14) (by decide +kernel), List.mem_of_getElem? (i := 283) (by decide +kernel), List.mem_of_getElem? (i := 284) (by decide +kernel)⟩
theorem lw_p14 : lw_okq (⟨"CourseEnrolment", "endEnrolment", "(LCourseEnrolment$Student;LCourseEnrolment$Course;)V"⟩, 6) := ⟨⟨by decide +kernel, by decide +kernel⟩, List.mem_of_getElem? (i := 14) (by decide +kernel), List.mem_of_getElem? (i := 287) (by decide +kernel), List.mem_of_getElem? (i := 288) (by decide +kernel)⟩
theorem lw_p15 : lw_okq (⟨"CourseEnrolment", "enrol", "(LCourseEnrolment$Student;LCourseEnrolment$Course;)V"⟩, 6) := ⟨⟨by decide +kernel, by decide +kernel⟩, List.mem_of_getElem? (i := 14) (by decide +kernel), List.mem_of_getElem? (i := 291) (by decide +kernel), List.mem_of_getElem? (i := 292) (by decide +kernel)⟩
def lw_privs_1 : List (MethodName × Nat) := [(⟨"CourseEnrolment", "participants", "()I"⟩, 6), (⟨"CourseEnrolment", "pointAll", "(I)V"⟩, 6), (⟨"CourseEnrolment", "targetOf", "(LCourseEnrolment$Student;I)I"⟩, 6), (⟨"CourseEnrolment", "courseAt", "(I)LCourseEnrolment$Course;"⟩, 6), (⟨"java/lang/Throwable", "fillInStackTrace", "(I)Ljava/lang/Throwable;"⟩, 6), (⟨"CourseEnrolment", "firstWhoPutUp", "(II)I"⟩, 6), (⟨"CourseEnrolment", "isAcceptable", "(LCourseEnrolment$Student;LCourseEnrolment$Course;)Z"⟩, 6), (⟨"CourseEnrolment", "obstacleFor", "(LCourseEnrolment$Student;LCourseEnrolment$Course;I)I"⟩, 6), (⟨"CourseEnrolment", "creditsOf", "(I)I"⟩, 6), (⟨"CourseEnrolment", "hoursOf", "(I)I"⟩, 6), (⟨"CourseEnrolment", "onCircles", "(I)I"⟩, 6), (⟨"CourseEnrolment", "isOnCircle", "(LCourseEnrolment$Student;)Z"⟩, 6), (⟨"CourseEnrolment", "studentAt", "(I)LCourseEnrolment$Student;"⟩, 6), (⟨"CourseEnrolment", "movePlaces", "(I)I"⟩, 6), (⟨"CourseEnrolment", "endEnrolment", "(LCourseEnrolment$Student;LCourseEnrolment$Course;)V"⟩, 6), (⟨"CourseEnrolment", "enrol", "(LCourseEnrolment$Student;LCourseEnrolment$Course;)V"⟩, 6)]
theorem lw_r1 : ∀ q ∈ lw_privs_1, lw_okq q := List.forall_mem_cons.mpr ⟨lw_p0, List.forall_mem_cons.mpr ⟨lw_p1, List.forall_mem_cons.mpr ⟨lw_p2, List.forall_mem_cons.mpr ⟨lw_p3, List.forall_mem_cons.mpr ⟨lw_p4, List.forall_mem_cons.mpr ⟨lw_p5, List.forall_mem_cons.mpr ⟨lw_p6, List.forall_mem_cons.mpr ⟨lw_p7, List.forall_mem_cons.mpr ⟨lw_p8, List.forall_mem_cons.mpr ⟨lw_p9, List.forall_mem_cons.mpr ⟨lw_p10, List.forall_mem_cons.mpr ⟨lw_p11, List.forall_mem_cons.mpr ⟨lw_p12, List.forall_mem_cons.mpr ⟨lw_p13, List.forall_mem_cons.mpr ⟨lw_p14, List.forall_mem_cons.mpr ⟨lw_p15, fun _ h => absurd h List.not_mem_nil⟩⟩⟩⟩⟩⟩⟩⟩⟩⟩⟩⟩⟩⟩⟩⟩
theorem lw_p16 : lw_okq (⟨"CourseEnrolment", "makeOffers", "()V"⟩, 6) := ⟨⟨by decide +kernel, by decide +kernel⟩, List.mem_of_getElem? (i := 14) (by decide +kernel), List.mem_of_getElem? (i := 308) (by decide +kernel), List.mem_of_getElem? (i := 309) (by decide +kernel)⟩
theorem lw_p17 : lw_okq (⟨"CourseEnrolment", "makeOffersFor", "(LCourseEnrolment$Course;)V"⟩, 6) := ⟨⟨by decide +kernel, by decide +kernel⟩, List.mem_of_getElem? (i := 14) (by decide +kernel), List.mem_of_getElem? (i := 312) (by decide +kernel), List.mem_of_getElem? (i := 313) (by decide +kernel)⟩
theorem lw_p18 : lw_okq (⟨"CourseEnrolment", "freeIn", "(LCourseEnrolment$Course;)I"⟩, 6) := ⟨⟨by decide +kernel, by decide +kernel⟩, List.mem_of_getElem? (i := 14) (by decide +kernel), List.mem_of_getElem? (i := 316) (by decide +kernel), List.mem_of_getElem? (i := 317) (by decide +kernel)⟩
theorem lw_p19 : lw_okq (⟨"CourseEnrolment", "takenSeats", "(LCourseEnrolment$Course;)I"⟩, 6) := ⟨⟨by decide +kernel, by decide +kernel⟩, List.mem_of_getElem? (i := 14) (by decide +kernel), List.mem_of_getElem? (i := 320) (by decide +kernel), List.mem_of_getElem? (i := 321) (by decide +kernel)⟩
theorem lw_p20 : lw_okq (⟨"CourseEnrolment", "enrolledIn", "(LCourseEnrolment$Course;)I"⟩, 6) := ⟨⟨by decide +kernel, by decide +kernel⟩, List.mem_of_getElem? (i := 14) (by decide +kernel), List.mem_of_getElem? (i := 324) (by decide +kernel), List.mem_of_getElem? (i := 325) (by decide +kernel)⟩
theorem lw_p21 : lw_okq (⟨"CourseEnrolment", "spreadRequired", "(LCourseEnrolment$Course;I)V"⟩, 6) := ⟨⟨by decide +kernel, by decide +kernel⟩, List.mem_of_getElem? (i := 14) (by decide +kernel), List.mem_of_getElem? (i := 399) (by decide +kernel), List.mem_of_getElem? (i := 400) (by decide +kernel)⟩
theorem lw_p22 : lw_okq (⟨"CourseEnrolment", "levelOf", "(LCourseEnrolment$Course;)I"⟩, 6) := ⟨⟨by decide +kernel, by decide +kernel⟩, List.mem_of_getElem? (i := 14) (by decide +kernel), List.mem_of_getElem? (i := 423) (by decide +kernel), List.mem_of_getElem? (i := 424) (by decide +kernel)⟩
theorem lw_p23 : lw_okq (⟨"CourseEnrolment", "directOf", "(I)I"⟩, 6) := ⟨⟨by decide +kernel, by decide +kernel⟩, List.mem_of_getElem? (i := 14) (by decide +kernel), List.mem_of_getElem? (i := 427) (by decide +kernel), List.mem_of_getElem? (i := 428) (by decide +kernel)⟩
theorem lw_p24 : lw_okq (⟨"CourseEnrolment", "endOldOffers", "()I"⟩, 6) := ⟨⟨by decide +kernel, by decide +kernel⟩, List.mem_of_getElem? (i := 14) (by decide +kernel), List.mem_of_getElem? (i := 587) (by decide +kernel), List.mem_of_getElem? (i := 588) (by decide +kernel)⟩
theorem lw_p25 : lw_okq (⟨"CourseEnrolment", "daysLeft", "(LCourseEnrolment$Course;I)I"⟩, 6) := ⟨⟨by decide +kernel, by decide +kernel⟩, List.mem_of_getElem? (i := 14) (by decide +kernel), List.mem_of_getElem? (i := 591) (by decide +kernel), List.mem_of_getElem? (i := 592) (by decide +kernel)⟩
theorem lw_p26 : lw_okq (⟨"CourseEnrolment", "drawNumbers", "(I)V"⟩, 6) := ⟨⟨by decide +kernel, by decide +kernel⟩, List.mem_of_getElem? (i := 14) (by decide +kernel), List.mem_of_getElem? (i := 624) (by decide +kernel), List.mem_of_getElem? (i := 625) (by decide +kernel)⟩
theorem lw_p27 : lw_okq (⟨"CourseEnrolment", "orderTurns", "()V"⟩, 6) := ⟨⟨by decide +kernel, by decide +kernel⟩, List.mem_of_getElem? (i := 14) (by decide +kernel), List.mem_of_getElem? (i := 632) (by decide +kernel), List.mem_of_getElem? (i := 633) (by decide +kernel)⟩
theorem lw_p28 : lw_okq (⟨"CourseEnrolment", "takeTurn", "(LCourseEnrolment$Student;)Z"⟩, 6) := ⟨⟨by decide +kernel, by decide +kernel⟩, List.mem_of_getElem? (i := 14) (by decide +kernel), List.mem_of_getElem? (i := 640) (by decide +kernel), List.mem_of_getElem? (i := 641) (by decide +kernel)⟩
theorem lw_p29 : lw_okq (⟨"CourseEnrolmentModel", "isCourse", "(I)Z"⟩, 22) := ⟨⟨by decide +kernel, by decide +kernel⟩, List.mem_of_getElem? (i := 680) (by decide +kernel), List.mem_of_getElem? (i := 766) (by decide +kernel), List.mem_of_getElem? (i := 767) (by decide +kernel)⟩
theorem lw_p30 : lw_okq (⟨"CourseEnrolmentModel", "free", "(I)I"⟩, 22) := ⟨⟨by decide +kernel, by decide +kernel⟩, List.mem_of_getElem? (i := 680) (by decide +kernel), List.mem_of_getElem? (i := 770) (by decide +kernel), List.mem_of_getElem? (i := 771) (by decide +kernel)⟩
theorem lw_p31 : lw_okq (⟨"CourseEnrolmentModel", "inCourse", "(I)I"⟩, 22) := ⟨⟨by decide +kernel, by decide +kernel⟩, List.mem_of_getElem? (i := 680) (by decide +kernel), List.mem_of_getElem? (i := 774) (by decide +kernel), List.mem_of_getElem? (i := 775) (by decide +kernel)⟩
def lw_privs_2 : List (MethodName × Nat) := [(⟨"CourseEnrolment", "makeOffers", "()V"⟩, 6), (⟨"CourseEnrolment", "makeOffersFor", "(LCourseEnrolment$Course;)V"⟩, 6), (⟨"CourseEnrolment", "freeIn", "(LCourseEnrolment$Course;)I"⟩, 6), (⟨"CourseEnrolment", "takenSeats", "(LCourseEnrolment$Course;)I"⟩, 6), (⟨"CourseEnrolment", "enrolledIn", "(LCourseEnrolment$Course;)I"⟩, 6), (⟨"CourseEnrolment", "spreadRequired", "(LCourseEnrolment$Course;I)V"⟩, 6), (⟨"CourseEnrolment", "levelOf", "(LCourseEnrolment$Course;)I"⟩, 6), (⟨"CourseEnrolment", "directOf", "(I)I"⟩, 6), (⟨"CourseEnrolment", "endOldOffers", "()I"⟩, 6), (⟨"CourseEnrolment", "daysLeft", "(LCourseEnrolment$Course;I)I"⟩, 6), (⟨"CourseEnrolment", "drawNumbers", "(I)V"⟩, 6), (⟨"CourseEnrolment", "orderTurns", "()V"⟩, 6), (⟨"CourseEnrolment", "takeTurn", "(LCourseEnrolment$Student;)Z"⟩, 6), (⟨"CourseEnrolmentModel", "isCourse", "(I)Z"⟩, 22), (⟨"CourseEnrolmentModel", "free", "(I)I"⟩, 22), (⟨"CourseEnrolmentModel", "inCourse", "(I)I"⟩, 22)]
theorem lw_r2 : ∀ q ∈ lw_privs_2, lw_okq q := List.forall_mem_cons.mpr ⟨lw_p16, List.forall_mem_cons.mpr ⟨lw_p17, List.forall_mem_cons.mpr ⟨lw_p18, List.forall_mem_cons.mpr ⟨lw_p19, List.forall_mem_cons.mpr ⟨lw_p20, List.forall_mem_cons.mpr ⟨lw_p21, List.forall_mem_cons.mpr ⟨lw_p22, List.forall_mem_cons.mpr ⟨lw_p23, List.forall_mem_cons.mpr ⟨lw_p24, List.forall_mem_cons.mpr ⟨lw_p25, List.forall_mem_cons.mpr ⟨lw_p26, List.forall_mem_cons.mpr ⟨lw_p27, List.forall_mem_cons.mpr ⟨lw_p28, List.forall_mem_cons.mpr ⟨lw_p29, List.forall_mem_cons.mpr ⟨lw_p30, List.forall_mem_cons.mpr ⟨lw_p31, fun _ h => absurd h List.not_mem_nil⟩⟩⟩⟩⟩⟩⟩⟩⟩⟩⟩⟩⟩⟩⟩⟩
theorem lw_p32 : lw_okq (⟨"CourseEnrolmentModel", "hasOffer", "(II)Z"⟩, 22) := ⟨⟨by decide +kernel, by decide +kernel⟩, List.mem_of_getElem? (i := 680) (by decide +kernel), List.mem_of_getElem? (i := 781) (by decide +kernel), List.mem_of_getElem? (i := 782) (by decide +kernel)⟩
theorem lw_p33 : lw_okq (⟨"CourseEnrolmentModel", "offers", "()V"⟩, 22) := ⟨⟨by decide +kernel, by decide +kernel⟩, List.mem_of_getElem? (i := 680) (by decide +kernel), List.mem_of_getElem? (i := 785) (by decide +kernel), List.mem_of_getElem? (i := 786) (by decide +kernel)⟩
theorem lw_p34 : lw_okq (⟨"CourseEnrolmentModel", "obstacleWith", "(III)I"⟩, 22) := ⟨⟨by decide +kernel, by decide +kernel⟩, List.mem_of_getElem? (i := 680) (by decide +kernel), List.mem_of_getElem? (i := 789) (by decide +kernel), List.mem_of_getElem? (i := 790) (by decide +kernel)⟩
theorem lw_p35 : lw_okq (⟨"CourseEnrolmentModel", "requiredBy", "(I)I"⟩, 22) := ⟨⟨by decide +kernel, by decide +kernel⟩, List.mem_of_getElem? (i := 680) (by decide +kernel), List.mem_of_getElem? (i := 793) (by decide +kernel), List.mem_of_getElem? (i := 794) (by decide +kernel)⟩
theorem lw_p36 : lw_okq (⟨"CourseEnrolmentModel", "worthOf", "(I)I"⟩, 22) := ⟨⟨by decide +kernel, by decide +kernel⟩, List.mem_of_getElem? (i := 680) (by decide +kernel), List.mem_of_getElem? (i := 797) (by decide +kernel), List.mem_of_getElem? (i := 798) (by decide +kernel)⟩
theorem lw_p37 : lw_okq (⟨"CourseEnrolmentModel", "areBoth", "(II)Z"⟩, 22) := ⟨⟨by decide +kernel, by decide +kernel⟩, List.mem_of_getElem? (i := 680) (by decide +kernel), List.mem_of_getElem? (i := 836) (by decide +kernel), List.mem_of_getElem? (i := 837) (by decide +kernel)⟩
theorem lw_p38 : lw_okq (⟨"CourseEnrolmentModel", "isStudent", "(I)Z"⟩, 22) := ⟨⟨by decide +kernel, by decide +kernel⟩, List.mem_of_getElem? (i := 680) (by decide +kernel), List.mem_of_getElem? (i := 840) (by decide +kernel), List.mem_of_getElem? (i := 841) (by decide +kernel)⟩
theorem lw_p39 : lw_okq (⟨"CourseEnrolmentModel", "dropsWish", "(II)V"⟩, 22) := ⟨⟨by decide +kernel, by decide +kernel⟩, List.mem_of_getElem? (i := 680) (by decide +kernel), List.mem_of_getElem? (i := 844) (by decide +kernel), List.mem_of_getElem? (i := 845) (by decide +kernel)⟩
theorem lw_p40 : lw_okq (⟨"CourseEnrolmentModel", "wishPlace", "(II)I"⟩, 22) := ⟨⟨by decide +kernel, by decide +kernel⟩, List.mem_of_getElem? (i := 680) (by decide +kernel), List.mem_of_getElem? (i := 848) (by decide +kernel), List.mem_of_getElem? (i := 849) (by decide +kernel)⟩
theorem lw_p41 : lw_okq (⟨"CourseEnrolmentModel", "leavesList", "(II)V"⟩, 22) := ⟨⟨by decide +kernel, by decide +kernel⟩, List.mem_of_getElem? (i := 680) (by decide +kernel), List.mem_of_getElem? (i := 852) (by decide +kernel), List.mem_of_getElem? (i := 853) (by decide +kernel)⟩
theorem lw_p42 : lw_okq (⟨"CourseEnrolmentModel", "waitPlace", "(II)I"⟩, 22) := ⟨⟨by decide +kernel, by decide +kernel⟩, List.mem_of_getElem? (i := 680) (by decide +kernel), List.mem_of_getElem? (i := 856) (by decide +kernel), List.mem_of_getElem? (i := 857) (by decide +kernel)⟩
theorem lw_p43 : lw_okq (⟨"CourseEnrolmentModel", "enrols", "(II)V"⟩, 22) := ⟨⟨by decide +kernel, by decide +kernel⟩, List.mem_of_getElem? (i := 680) (by decide +kernel), List.mem_of_getElem? (i := 904) (by decide +kernel), List.mem_of_getElem? (i := 905) (by decide +kernel)⟩
theorem lw_p44 : lw_okq (⟨"CourseEnrolmentModel", "gives", "(II)V"⟩, 22) := ⟨⟨by decide +kernel, by decide +kernel⟩, List.mem_of_getElem? (i := 680) (by decide +kernel), List.mem_of_getElem? (i := 912) (by decide +kernel), List.mem_of_getElem? (i := 913) (by decide +kernel)⟩
theorem lw_p45 : lw_okq (⟨"CourseEnrolmentModel", "expires", "()I"⟩, 22) := ⟨⟨by decide +kernel, by decide +kernel⟩, List.mem_of_getElem? (i := 680) (by decide +kernel), List.mem_of_getElem? (i := 932) (by decide +kernel), List.mem_of_getElem? (i := 933) (by decide +kernel)⟩
theorem lw_p46 : lw_okq (⟨"CourseEnrolmentModel", "isAhead", "(II)Z"⟩, 22) := ⟨⟨by decide +kernel, by decide +kernel⟩, List.mem_of_getElem? (i := 680) (by decide +kernel), List.mem_of_getElem? (i := 960) (by decide +kernel), List.mem_of_getElem? (i := 961) (by decide +kernel)⟩
theorem lw_p47 : lw_okq (⟨"CourseEnrolmentModel", "getsOne", "(I)Z"⟩, 22) := ⟨⟨by decide +kernel, by decide +kernel⟩, List.mem_of_getElem? (i := 680) (by decide +kernel), List.mem_of_getElem? (i := 964) (by decide +kernel), List.mem_of_getElem? (i := 965) (by decide +kernel)⟩
def lw_privs_3 : List (MethodName × Nat) := [(⟨"CourseEnrolmentModel", "hasOffer", "(II)Z"⟩, 22), (⟨"CourseEnrolmentModel", "offers", "()V"⟩, 22), (⟨"CourseEnrolmentModel", "obstacleWith", "(III)I"⟩, 22), (⟨"CourseEnrolmentModel", "requiredBy", "(I)I"⟩, 22), (⟨"CourseEnrolmentModel", "worthOf", "(I)I"⟩, 22), (⟨"CourseEnrolmentModel", "areBoth", "(II)Z"⟩, 22), (⟨"CourseEnrolmentModel", "isStudent", "(I)Z"⟩, 22), (⟨"CourseEnrolmentModel", "dropsWish", "(II)V"⟩, 22), (⟨"CourseEnrolmentModel", "wishPlace", "(II)I"⟩, 22), (⟨"CourseEnrolmentModel", "leavesList", "(II)V"⟩, 22), (⟨"CourseEnrolmentModel", "waitPlace", "(II)I"⟩, 22), (⟨"CourseEnrolmentModel", "enrols", "(II)V"⟩, 22), (⟨"CourseEnrolmentModel", "gives", "(II)V"⟩, 22), (⟨"CourseEnrolmentModel", "expires", "()I"⟩, 22), (⟨"CourseEnrolmentModel", "isAhead", "(II)Z"⟩, 22), (⟨"CourseEnrolmentModel", "getsOne", "(I)Z"⟩, 22)]
theorem lw_r3 : ∀ q ∈ lw_privs_3, lw_okq q := List.forall_mem_cons.mpr ⟨lw_p32, List.forall_mem_cons.mpr ⟨lw_p33, List.forall_mem_cons.mpr ⟨lw_p34, List.forall_mem_cons.mpr ⟨lw_p35, List.forall_mem_cons.mpr ⟨lw_p36, List.forall_mem_cons.mpr ⟨lw_p37, List.forall_mem_cons.mpr ⟨lw_p38, List.forall_mem_cons.mpr ⟨lw_p39, List.forall_mem_cons.mpr ⟨lw_p40, List.forall_mem_cons.mpr ⟨lw_p41, List.forall_mem_cons.mpr ⟨lw_p42, List.forall_mem_cons.mpr ⟨lw_p43, List.forall_mem_cons.mpr ⟨lw_p44, List.forall_mem_cons.mpr ⟨lw_p45, List.forall_mem_cons.mpr ⟨lw_p46, List.forall_mem_cons.mpr ⟨lw_p47, fun _ h => absurd h List.not_mem_nil⟩⟩⟩⟩⟩⟩⟩⟩⟩⟩⟩⟩⟩⟩⟩⟩
theorem lw_p48 : lw_okq (⟨"CourseEnrolmentModel", "participants", "()I"⟩, 22) := ⟨⟨by decide +kernel, by decide +kernel⟩, List.mem_of_getElem? (i := 680) (by decide +kernel), List.mem_of_getElem? (i := 988) (by decide +kernel), List.mem_of_getElem? (i := 989) (by decide +kernel)⟩
theorem lw_p49 : lw_okq (⟨"CourseEnrolmentModel", "pointer", "(II)I"⟩, 22) := ⟨⟨by decide +kernel, by decide +kernel⟩, List.mem_of_getElem? (i := 680) (by decide +kernel), List.mem_of_getElem? (i := 992) (by decide +kernel), List.mem_of_getElem? (i := 993) (by decide +kernel)⟩
theorem lw_p50 : lw_okq (⟨"CourseEnrolmentModel", "circles", "(I)I"⟩, 22) := ⟨⟨by decide +kernel, by decide +kernel⟩, List.mem_of_getElem? (i := 680) (by decide +kernel), List.mem_of_getElem? (i := 1000) (by decide +kernel), List.mem_of_getElem? (i := 1001) (by decide +kernel)⟩
theorem lw_p51 : lw_okq (⟨"CourseEnrolmentModel", "isOnCircle", "(I)Z"⟩, 22) := ⟨⟨by decide +kernel, by decide +kernel⟩, List.mem_of_getElem? (i := 680) (by decide +kernel), List.mem_of_getElem? (i := 1004) (by decide +kernel), List.mem_of_getElem? (i := 1005) (by decide +kernel)⟩
def lw_privs_4 : List (MethodName × Nat) := [(⟨"CourseEnrolmentModel", "participants", "()I"⟩, 22), (⟨"CourseEnrolmentModel", "pointer", "(II)I"⟩, 22), (⟨"CourseEnrolmentModel", "circles", "(I)I"⟩, 22), (⟨"CourseEnrolmentModel", "isOnCircle", "(I)Z"⟩, 22)]
theorem lw_r4 : ∀ q ∈ lw_privs_4, lw_okq q := List.forall_mem_cons.mpr ⟨lw_p48, List.forall_mem_cons.mpr ⟨lw_p49, List.forall_mem_cons.mpr ⟨lw_p50, List.forall_mem_cons.mpr ⟨lw_p51, fun _ h => absurd h List.not_mem_nil⟩⟩⟩⟩
def lw_privs : List (MethodName × Nat) := lw_privs_1 ++ (lw_privs_2 ++ (lw_privs_3 ++ (lw_privs_4)))
def lw_tbl : List Cond := k2_sels lw_privs ++ tables_1
theorem lw_privs_ok : ∀ q ∈ lw_privs, lw_okq q := by
  show ∀ q ∈ lw_privs_1 ++ (lw_privs_2 ++ (lw_privs_3 ++ (lw_privs_4))), lw_okq q
  exact List.forall_mem_append.mpr ⟨lw_r1, List.forall_mem_append.mpr ⟨lw_r2, List.forall_mem_append.mpr ⟨lw_r3, lw_r4⟩⟩⟩
-- ===== end of PART A; then your names; then what follows =====
end
section
/-! ===== BEGIN words of one list among another's, by their places ===== -/
theorem goodIn_r {big : List Cond} (ws : List Cond) (ps : List Nat) (hp : ws = ps.filterMap (fun i => big[i]?)) (h : ws.all goodWord = true) : GoodIn big ws := by
  intro w hw
  have h1 := List.all_eq_true.mp h w hw
  rw [hp] at hw
  obtain ⟨i, -, hi⟩ := List.mem_filterMap.mp hw
  have hm : w ∈ big := by first | exact List.mem_of_getElem? hi | exact List.getElem?_mem hi
  exact ⟨hm, good_of_word h1⟩
theorem goodIn_app {big a b : List Cond} (ha : GoodIn big a) (hb : GoodIn big b) : GoodIn big (a ++ b) := fun w h => (List.mem_append.mp h).elim (ha w) (hb w)
theorem goodIn_ca {big a b : List Cond} {c : Cond} (ha : GoodIn big (c :: a)) (hb : GoodIn big b) : GoodIn big (c :: (a ++ b)) := fun w h => (List.mem_cons.mp h).elim (fun e => ha w (List.mem_cons.mpr (Or.inl e))) (fun h => (List.mem_append.mp h).elim (fun h => ha w (List.mem_cons.mpr (Or.inr h))) (hb w))
theorem goodIn_sub {big ws : List Cond} (hm : ∀ w ∈ ws, w ∈ big) (h : ws.all goodWord = true) : GoodIn big ws := fun w hw => ⟨hm w hw, good_of_word (List.all_eq_true.mp h w hw)⟩
/-! ===== END ===== -/

/-! ===== BEGIN exceptions that leave a method, and their catching by the caller (launches without stack traces) ===== -/
section VXA
/-! The laws vx_back, vx_callV, vx_callS, vx_callSW, vx_throw0, vx_throwS follow proofs of the library, with one case more: JvmDerived/Free/Laws.lean (Back.of_free), Shelf42/LK1.lean (callV, callS), Shelf/KitTraced.lean (throwNew0V, throwNewS). -/
/-- where a method has thrown q: the class by its name, the cell, what was written, the world -/
def vx_T (XC : String → State → State → Prop) (st : State) (q : Addr) (t : State) (mc ms : Nat) (free : Addr → Prop) : Prop :=
  ∃ (E : String) (ce : Cell) (L : List Loc), XC E st t ∧ t.heap[q]? = some ce ∧ ce.vm = .none ∧ st.vm.findClass E = some ce.cls ∧ st.WarmedH t.vm ∧ st.sameButNew ({ t with vm := st.vm } : State) L mc ms ∧ ∀ z ∈ L, free z.base
def vx_Q (Qc : Array Value → State → Outcome → State → Prop) (XC : String → State → State → Prop) (mc ms : Nat) (free : Addr → Prop) : Array Value → State → Outcome → State → Prop := fun a st o t =>
  (Qc a st o t ∧ ∃ L, FrameEnd st o t L mc ms ∧ ∀ q ∈ L, free q.base) ∨ ∃ q, o = .threw q ∧ vx_T XC st q t mc ms free
/-- a callee that returns or throws -/
def vx_Met (l : Launch) (y : MethodName) (ws : List Cond) (rm : Room) (Pc : Array Value → State → Prop) (Qc : Array Value → State → Outcome → State → Prop) (XC : String → State → State → Prop) (mc ms : Nat) (free : Addr → Prop) : Prop :=
  MetFree l y (headSpec ws rm) Pc (fun _ _ _ _ _ => True) (vx_Q Qc XC mc ms free)
def vx_Post (XC : String → State → State → Prop) (mc ms : Nat) (free : Addr → Prop) : Pt → Array Value → Addr → Pt → Prop := fun A a q B =>
  ∃ (g : JFrame) (mk : MethodId) (t : State) (L : List Loc) (E : String) (ce : Cell), B.U.heap = t.heap ∧ B.U.vm = t.vm ∧ XC E (A.U.calling g mk a) t ∧ t.heap[q]? = some ce ∧ ce.vm = .none ∧ A.U.vm.findClass E = some ce.cls ∧ B.locs = A.locs ++ L ∧ (∀ z ∈ L, free z.base) ∧ B.cells = A.cells + mc ∧ B.slots = A.slots + ms
def vx_Back (l : Launch) (R : Room) (p : Program) (e : Env) (below : List Frame) (s : State) (sargs : Array Value) (y : MethodName) (len W9 : Nat)
    (Pre : Pt → Array Value → Prop) (Post : Pt → Array Value → Option Value → Pt → Prop) (PostX : Pt → Array Value → Addr → Pt → Prop) : Prop :=
  ∀ (m : MethodId) (meth : Method) (c : Code) (A : Pt) (g : JFrame) (ig : Instr) (mk : MethodId) (a : Array Value),
    Stand p l e R s m sargs below meth c A.U A.locs A.cells A.slots → g.method = m → g.locals.size = c.maxLocals → decode c.code g.pc = .ok (ig, len) →
    2 * g.monitorRoom + (g.stack.map fun v => v.category).sum ≤ W9 → A.U.methodNamed? y = some mk → Pre A a →
    (∃ (v : Option Value) (B : Pt), Stand p l e R s m sargs below meth c B.U B.locs B.cells B.slots ∧ Post A a v B ∧
      Steps p.tables e below (doInvoke e (A.U.setTop g) [] mk a).1 (B.U.setTop { g with pc := g.pc + len, stack := v.toList ++ g.stack })) ∨
    (∃ (q : Addr) (B : Pt), Stand p l e R s m sargs below meth c B.U B.locs B.cells B.slots ∧ PostX A a q B ∧
      Steps p.tables e below (doInvoke e (A.U.setTop g) [] mk a).1 ((B.U.setTop g).pushFrame (.throwing q)))
section Payer
variable {l : Launch} {R : Room} {p : Program} {e : Env} {below : List Frame} {s : State} {sargs : Array Value} {y : MethodName} {len W9 : Nat}
theorem vx_back {ws : List Cond} {rm : Room} {Pc : Array Value → State → Prop} {Qc : Array Value → State → Outcome → State → Prop} {XC : String → State → State → Prop} {mc ms : Nat} {free : Addr → Prop} {bytes : ByteArray} {maxL : Nat} {ret : Option FieldType}
    (hM : vx_Met l y ws rm Pc Qc XC mc ms free) (hblind : FrameBlind Pc) (hrc : rm.cells = mc) (hrs : rm.slots = ms)
    (hframes : rm.frames + 1 ≤ R.frames) (hlocals : W9 + (maxL + 11) + rm.locals ≤ R.locals)
    (hws : ∀ w ∈ ws, ∀ a' U, s.WarmedH U.vm → w.before a' U = true) (hcode : Cond.code y bytes maxL ret ∈ ws) (hinit : ∀ a' U, s.WarmedH U.vm → (Cond.initialized y.cls).before a' U = true) :
    vx_Back l R p e below s sargs y len W9 (PreOf R mc ms Pc) (PostOf Qc mc ms free) (vx_Post XC mc ms free) := by
  intro m meth c A g ig mk a X hg hsize hdg hW hn hp
  have h1 : (headSpec ws rm).pre.before a A.U = true := atoms_intro fun w hw => hws w hw _ _ X.warmed
  have h2 : (Cond.code y bytes maxL ret).before a A.U = true := hws _ hcode _ _ X.warmed
  have h3 : (Cond.initialized y.cls).before a A.U = true := hinit _ _ X.warmed
  have h4 : A.cells + (headSpec ws rm).room.cells ≤ R.cells := by rw [show (headSpec ws rm).room.cells = mc from hrc]; exact hp.1
  have h5 : A.slots + (headSpec ws rm).room.slots ≤ R.slots := by rw [show (headSpec ws rm).room.slots = ms from hrs]; exact hp.2.1
  have hPc : Pc a (A.U.calling g mk a) := hblind _ _ _ _ hp.2.2
  obtain ⟨U, Ls, c0, s0⟩ := A
  dsimp only [Pt.U, Pt.locs, Pt.cells, Pt.slots] at h1 h2 h3 h4 h5 X hn hPc ⊢
  obtain ⟨methY, cY, hmY, hcY, -, hlY, -, -, -, -⟩ := Cond.code_spec hn h2
  obtain ⟨kY, hkY, -⟩ := className_of_methodNamed hn
  have hinitY : kY.init = .initialized := Cond.initialized_spec (findClass_of_methodNamed hn) hkY h3
  have h : At U g.method c below := by rw [hg]; exact X.here
  have hlocals9 : W9 + (maxL + 11) + (headSpec ws rm).room.locals ≤ R.locals := hlocals
  have happ : (headSpec ws rm).appliesLoose y e.platform (U.calling g mk a) = true :=
    Spec.appliesLoose_calling (g := g) h hdg hn hkY hinitY
      (X.room_calling (g := g) (R' := (headSpec ws rm).room) hsize hmY hcY hframes (by rw [hlY]; omega) h4 h5) h1
  obtain ⟨mid, hmid⟩ := h.above
  have hfr : (U.setTop g).frames = (.java g :: mid) ++ below := by rw [State.frames_setTop' g h.top, hmid]; rfl
  obtain ⟨o, s₂, hsteps, -, hend, hq⟩ := Steps.callFree hM p X.admits X.cas X.clock (acts := []) hfr happ hPc trivial
  have hq' : vx_Q Qc XC mc ms free a (U.calling g mk a) o s₂ := hq
  rw [State.frames_setTop' g h.top] at hend
  obtain ⟨g₀, hg0⟩ := Option.isSome_iff_exists.mp h.top
  obtain ⟨r, hr⟩ := State.topJava?_eq_some.mp hg0
  have hr' : (({ U with heap := s₂.heap, slotsUsed := s₂.slotsUsed } : State).setVm s₂.vm).frames = .java g₀ :: r := hr
  rcases hq' with ⟨hqc, L, hfe, hL⟩ | ⟨q, rfl, E, ce, L, hx, hce, hcv, hcl, hW₂, hsm, hL⟩
  · obtain ⟨⟨v, rfl⟩, hW₂, e2, q2, q3, q4, q5, q6⟩ := id hfe
    have e3 : s₂ = ({ (U.calling g mk a).setFrames s₂.frames with heap := s₂.heap, slotsUsed := s₂.slotsUsed } : State).setVm s₂.vm := by
      have : s₂ = ({ s₂ with vm := (U.calling g mk a).vm } : State).setVm s₂.vm := rfl
      rw [e2] at this
      exact this
    obtain ⟨c₂, i₂, len₂, hc₂, hd₂, hf₂⟩ := hend
    have hW' : U.WarmedH s₂.vm := hW₂
    have hcc : c₂ = c := by
      have h1 : s₂.code? g.method = U.code? g.method := by
        rw [State.code?_eq, State.code?_eq, hW'.alike.method?]
      exact Option.some.inj (hc₂.symm.trans (h1.trans h.code))
    subst hcc
    have hlen : len₂ = len := by rw [hdg] at hd₂; cases hd₂; rfl
    subst hlen
    have hs₂ : s₂ = (({ U with heap := s₂.heap, slotsUsed := s₂.slotsUsed } : State).setVm s₂.vm).setTop { g with pc := g.pc + len₂, stack := v.toList ++ g.stack } := by
      refine e3.trans ?_
      rw [hf₂, State.calling_eq h.top, State.setFrames_setFrames, State.setTop_of_frames _ hr', hr]
      rfl
    have hsame : U.sameButNew ({ U with heap := s₂.heap, slotsUsed := s₂.slotsUsed } : State) L mc ms := by
      refine ⟨?_, q2, q3, q4, q5, q6⟩
      obtain ⟨t, ht, -⟩ := State.frames_cons hr
      show ({ U with heap := s₂.heap, slotsUsed := s₂.slotsUsed } : State) = { U.setFrames U.frames with heap := s₂.heap, slotsUsed := s₂.slotsUsed }
      rw [State.setFrames_self ht]
    subst hg
    refine Or.inl ⟨v, ⟨(({ U with heap := s₂.heap, slotsUsed := s₂.slotsUsed } : State).setVm s₂.vm), Ls ++ L, c0 + mc, s0 + ms⟩,
      ⟨X.admits, X.cas, X.clock, X.frames, X.room, X.hears, X.method, X.code, (X.here.setHeapUsed s₂.heap s₂.slotsUsed).setVm hW'.alike, X.tail, State.WarmedH.trans X.warmed hW', X.limits, X.bytes, X.same.trans (hsame.setVm s.vm)⟩,
      ⟨g, mk, s₂, L, rfl, rfl, hqc, rfl, hL, rfl, rfl⟩, ?_⟩
    show Steps p.tables e below _ ((({ U with heap := s₂.heap, slotsUsed := s₂.slotsUsed } : State).setVm s₂.vm).setTop { g with pc := g.pc + len₂, stack := v.toList ++ g.stack })
    rw [← hs₂]
    exact hsteps
  · obtain ⟨e2, q2, q3, q4, q5, q6⟩ := id hsm
    have e3 : s₂ = ({ (U.calling g mk a).setFrames s₂.frames with heap := s₂.heap, slotsUsed := s₂.slotsUsed } : State).setVm s₂.vm := by
      have : s₂ = ({ s₂ with vm := (U.calling g mk a).vm } : State).setVm s₂.vm := rfl
      rw [e2] at this
      exact this
    have hf₂ : s₂.frames = .throwing q :: .java g :: U.frames.tail := hend
    have hW' : U.WarmedH s₂.vm := hW₂
    have hs₂ : s₂ = ((({ U with heap := s₂.heap, slotsUsed := s₂.slotsUsed } : State).setVm s₂.vm).setTop g).pushFrame (.throwing q) := by
      refine e3.trans ?_
      rw [hf₂, State.calling_eq h.top, State.setFrames_setFrames, State.pushFrame, State.frames_setTop _ hr', State.setTop_of_frames _ hr', State.setFrames_setFrames, hr]
      rfl
    have hsame : U.sameButNew ({ U with heap := s₂.heap, slotsUsed := s₂.slotsUsed } : State) L mc ms := by
      refine ⟨?_, q2, q3, q4, q5, q6⟩
      obtain ⟨t, ht, -⟩ := State.frames_cons hr
      show ({ U with heap := s₂.heap, slotsUsed := s₂.slotsUsed } : State) = { U.setFrames U.frames with heap := s₂.heap, slotsUsed := s₂.slotsUsed }
      rw [State.setFrames_self ht]
    subst hg
    refine Or.inr ⟨q, ⟨(({ U with heap := s₂.heap, slotsUsed := s₂.slotsUsed } : State).setVm s₂.vm), Ls ++ L, c0 + mc, s0 + ms⟩,
      ⟨X.admits, X.cas, X.clock, X.frames, X.room, X.hears, X.method, X.code, (X.here.setHeapUsed s₂.heap s₂.slotsUsed).setVm hW'.alike, X.tail, State.WarmedH.trans X.warmed hW', X.limits, X.bytes, X.same.trans (hsame.setVm s.vm)⟩,
      ⟨g, mk, s₂, L, E, ce, rfl, rfl, hx, hce, hcv, hcl, rfl, hL, rfl, rfl⟩, ?_⟩
    show Steps p.tables e below _ (((({ U with heap := s₂.heap, slotsUsed := s₂.slotsUsed } : State).setVm s₂.vm).setTop g).pushFrame (.throwing q))
    rw [← hs₂]
    exact hsteps
end Payer
section Calls
variable {p : Program} {l : Launch} {e : Env} {R : Room} {s : State} {m : MethodId} {args : Array Value} {below : List Frame} {meth : Method} {c : Code} {T : State} {locs : List Loc} {cells slots : Nat}
theorem vx_callV (X : Stand p l e R s m args below meth c T locs cells slots) (hexec : p.tables.exec = Jvm.exec) {own C : String} {index : Nat} {y : MethodName} {bytes : ByteArray} {maxL : Nat} {ret : Option FieldType}
    (hown : s.vm.findClass own = some m.cls) (hlink : (Cond.methodLink own index y).before args s = true) (hinst : (Cond.instanceMethod y).before args s = true) (hsel : (Cond.selects C y y).before args s = true)
    (hcode : (Cond.code y bytes maxL ret).before args s = true) (hy : y.cls ≠ "java/lang/invoke/MethodHandle" ∧ y.cls ≠ "java/lang/invoke/VarHandle")
    {W9 : Nat} {Pre : Pt → Array Value → Prop} {Post : Pt → Array Value → Option Value → Pt → Prop} {PostX : Pt → Array Value → Addr → Pt → Prop} (hK : vx_Back l R p e below s args y 3 W9 Pre Post PostX)
    {b : Addr} {cellB : Cell} (hcell : T.heap[b]? = some cellB) (hobj : cellB.vm.isStatics = false) (hcls : s.vm.findClass C = some cellB.cls)
    {g : JFrame} (hg : g.method = m) (hsize : g.locals.size = c.maxLocals) {argsL rest : List Value} (hlen : ∀ sig, parseMethodDescriptor y.desc = some sig → argsL.length = sig.parameters.length)
    (hstack : g.stack = argsL.reverse ++ .ref b :: rest) (hW : 2 * g.monitorRoom + (rest.map fun v => v.category).sum ≤ W9) (hdg : decode c.code g.pc = .ok (.invokevirtual index, 3))
    (hpre : ∀ vm₁, s.WarmedH vm₁ → Pre ⟨T.setVm vm₁, locs, cells, slots⟩ (Value.ref b :: argsL).toArray) :
    (∃ (v : Option Value) (vm₁ : Vm) (B : Pt), s.WarmedH vm₁ ∧ Stand p l e R s m args below meth c B.U B.locs B.cells B.slots ∧ Post ⟨T.setVm vm₁, locs, cells, slots⟩ (Value.ref b :: argsL).toArray v B ∧
      ∀ target, Steps p.tables e below (B.U.setTop { g with pc := g.pc + 3, stack := v.toList ++ rest }) target → Steps p.tables e below (T.setTop g) target) ∨
    (∃ (q : Addr) (vm₁ : Vm) (B : Pt), s.WarmedH vm₁ ∧ Stand p l e R s m args below meth c B.U B.locs B.cells B.slots ∧ PostX ⟨T.setVm vm₁, locs, cells, slots⟩ (Value.ref b :: argsL).toArray q B ∧
      Steps p.tables e below (T.setTop g) ((B.U.setTop { g with stack := rest }).pushFrame (.throwing q))) := by
  obtain ⟨mk, methM, hnamed, hmethM, hstM, habM⟩ := Cond.instanceMethod_spec hinst
  obtain ⟨methM', cM, hmethM', -, -, -, -, -, -, hsigM⟩ := Cond.code_spec hnamed hcode
  cases hmethM.symm.trans hmethM'
  obtain ⟨c2, r2, m2, q1, q2, q3, q4, kP, hkP, hkPi⟩ := Cond.selects_spec hsel
  cases hcls.symm.trans q1
  cases (State.methodFound?_of_named hnamed hy).symm.trans q2
  cases hnamed.symm.trans q3
  have hselP : selectMethod e.platform s.vm cellB.cls mk = .method mk := by rw [Launch.admits_selectMethod X.admits]; exact q4
  obtain ⟨vm₁, X₁, hstep₁⟩ := X.invokevirtual hexec hown hlink hnamed hmethM hstM hkP hkPi hy (a := b) (cell := cellB) hcell
    (fun z h => by rw [h] at hobj; cases hobj) hselP hmethM habM hkP hkPi (g := g) hg (argsL := argsL) (rest := rest) (hlen _ hsigM) hstack hdg
  rcases hK m meth c ⟨T.setVm vm₁, locs, cells, slots⟩ { g with stack := rest } (.invokevirtual index) mk (Value.ref b :: argsL).toArray X₁ hg hsize hdg hW (X₁.named hnamed) (hpre vm₁ X₁.warmed) with ⟨v, B, X', hpost, hsteps⟩ | ⟨q, B, X', hpost, hsteps⟩
  · exact Or.inl ⟨v, vm₁, B, X₁.warmed, X', hpost, fun target h => hstep₁ _ fun acts => by rw [doInvoke_state]; exact hsteps.trans h⟩
  · exact Or.inr ⟨q, vm₁, B, X₁.warmed, X', hpost, hstep₁ _ fun acts => by rw [doInvoke_state]; exact hsteps⟩
theorem vx_callS (X : Stand p l e R s m args below meth c T locs cells slots) (hexec : p.tables.exec = Jvm.exec) {own : String} {index : Nat} {y : MethodName} {bytes : ByteArray} {maxL : Nat} {ret : Option FieldType}
    (hown : s.vm.findClass own = some m.cls) (hlink : (Cond.methodLink own index y).before args s = true) (hstat : (Cond.static y).before args s = true) (hinit : (Cond.initialized y.cls).before args s = true)
    (hcode : (Cond.code y bytes maxL ret).before args s = true) (hy : y.cls ≠ "java/lang/invoke/MethodHandle" ∧ y.cls ≠ "java/lang/invoke/VarHandle")
    {W9 : Nat} {Pre : Pt → Array Value → Prop} {Post : Pt → Array Value → Option Value → Pt → Prop} {PostX : Pt → Array Value → Addr → Pt → Prop} (hK : vx_Back l R p e below s args y 3 W9 Pre Post PostX)
    {g : JFrame} (hg : g.method = m) (hsize : g.locals.size = c.maxLocals) {argsL rest : List Value} (hlen : ∀ sig, parseMethodDescriptor y.desc = some sig → argsL.length = sig.parameters.length)
    (hstack : g.stack = argsL.reverse ++ rest) (hW : 2 * g.monitorRoom + (rest.map fun v => v.category).sum ≤ W9) (hdg : decode c.code g.pc = .ok (.invokestatic index, 3))
    (hpre : ∀ vm₁, s.WarmedH vm₁ → Pre ⟨T.setVm vm₁, locs, cells, slots⟩ argsL.toArray) :
    (∃ (v : Option Value) (vm₁ : Vm) (B : Pt), s.WarmedH vm₁ ∧ Stand p l e R s m args below meth c B.U B.locs B.cells B.slots ∧ Post ⟨T.setVm vm₁, locs, cells, slots⟩ argsL.toArray v B ∧
      ∀ target, Steps p.tables e below (B.U.setTop { g with pc := g.pc + 3, stack := v.toList ++ rest }) target → Steps p.tables e below (T.setTop g) target) ∨
    (∃ (q : Addr) (vm₁ : Vm) (B : Pt), s.WarmedH vm₁ ∧ Stand p l e R s m args below meth c B.U B.locs B.cells B.slots ∧ PostX ⟨T.setVm vm₁, locs, cells, slots⟩ argsL.toArray q B ∧
      Steps p.tables e below (T.setTop g) ((B.U.setTop { g with stack := rest }).pushFrame (.throwing q))) := by
  obtain ⟨mk, hnamed⟩ := Cond.code_named hcode
  obtain ⟨methM, cM, hmethM, -, -, -, -, -, -, hsigM⟩ := Cond.code_spec hnamed hcode
  have hstatic : methM.isStatic = true := Cond.static_spec hnamed hmethM hstat
  obtain ⟨kP, hkP, -⟩ := className_of_methodNamed hnamed
  have hinitP : kP.init = .initialized := Cond.initialized_spec (findClass_of_methodNamed hnamed) hkP hinit
  obtain ⟨vm₁, X₁, hstep₁⟩ := X.invokestatic hexec hown hlink hnamed hmethM hstatic hkP hinitP hy (g := g) hg (argsL := argsL) (rest := rest) (hlen _ hsigM) hstack hdg
  rcases hK m meth c ⟨T.setVm vm₁, locs, cells, slots⟩ { g with stack := rest } (.invokestatic index) mk argsL.toArray X₁ hg hsize hdg hW (X₁.named hnamed) (hpre vm₁ X₁.warmed) with ⟨v, B, X', hpost, hsteps⟩ | ⟨q, B, X', hpost, hsteps⟩
  · exact Or.inl ⟨v, vm₁, B, X₁.warmed, X', hpost, fun target h => hstep₁ _ fun acts => by rw [doInvoke_state]; exact hsteps.trans h⟩
  · exact Or.inr ⟨q, vm₁, B, X₁.warmed, X', hpost, hstep₁ _ fun acts => by rw [doInvoke_state]; exact hsteps⟩
end Calls
theorem vx_cls {s : State} {T : State} {vm₁ : Vm} {E : String} {k : ClassId} (hW : s.WarmedH vm₁) (h : (T.setVm vm₁).vm.findClass E = some k) : s.vm.findClass E = some k := by
  have h1 : vm₁.findClass E = some k := h
  rw [hW.alike.findClass] at h1
  exact h1
/-- the method's frame g, with q thrown over it -/
def vx_W (p : Program) (l : Launch) (e : Env) (R : Room) (s : State) (m : MethodId) (args : Array Value) (below : List Frame) (meth : Method) (c : Code) (H : Heap) (locs : List Loc) (cells slots : Nat) (Q : State → Prop) (g : JFrame) (q : Addr) : Prop :=
  ∀ T : State, T.heap = H → Stand p l e R s m args below meth c T locs cells slots → ∃ t, Steps p.tables e below ((T.setTop g).pushFrame (.throwing q)) t ∧ Q t
def vx_Run (p : Program) (l : Launch) (e : Env) (R : Room) (s : State) (m : MethodId) (args : Array Value) (below : List Frame) (meth : Method) (c : Code) (H : Heap) (locs : List Loc) (cells slots mc ms : Nat) (g : JFrame) (rest : List Value) (Qa : State → Outcome → State → Prop) (XC : String → State → State → Prop) (free : Addr → Prop) : Prop :=
  ∀ T : State, T.heap = H → Stand p l e R s m args below meth c T locs cells slots →
    (∃ (v : Option Value) (st₀ t T' : State) (L : List Loc), st₀.heap = H ∧ Stand p l e R s m args below meth c T' (locs ++ L) (cells + mc) (slots + ms) ∧ (∀ q ∈ L, free q.base) ∧ T'.heap = t.heap ∧ T'.vm = t.vm ∧ Qa st₀ (.returned v) t ∧
      Goes p e below T g T' { g with pc := g.pc + 3, stack := v.toList ++ rest }) ∨
    (∃ (q : Addr) (st₀ t T' : State) (L : List Loc) (E : String) (ce : Cell), st₀.heap = H ∧ Stand p l e R s m args below meth c T' (locs ++ L) (cells + mc) (slots + ms) ∧ (∀ z ∈ L, free z.base) ∧ T'.heap = t.heap ∧ T'.vm = t.vm ∧ XC E st₀ t ∧ t.heap[q]? = some ce ∧ ce.vm = .none ∧ s.vm.findClass E = some ce.cls ∧
      Steps p.tables e below (T.setTop g) ((T'.setTop { g with stack := rest }).pushFrame (.throwing q)))
def vx_X {S : Type} (px : S → Prop) (B : String → S → State → Prop) (A : Nat → Prop) : String → State → State → Prop := fun E st t => ∃ u : S, px u ∧ B E u t ∧ va_F A st t
section Runs
variable {p : Program} {l : Launch} {e : Env} {R : Room} {s : State} {m : MethodId} {args : Array Value} {below : List Frame} {meth : Method} {c : Code} {H : Heap} {locs : List Loc} {cells slots : Nat}
variable {y : MethodName} {bytes cc : ByteArray} {maxL nL mc ms n index : Nat} {ret : Option FieldType} {ws : List Cond} {rm : Room} {Pc : Array Value → State → Prop} {Qc : Array Value → State → Outcome → State → Prop} {XC : String → State → State → Prop} {free : Addr → Prop} {Ts : List Cond} {own C : String} {b : Addr} {As rest : List Value} {g : JFrame}
theorem vx_callBack (cb : CallB R s args own index y bytes maxL ret ws rm mc ms n) (hM : vx_Met l y ws rm Pc Qc XC mc ms free) (hbl : FrameBlind Pc) : vx_Back l R p e below s args y 3 8 (PreOf R mc ms Pc) (PostOf Qc mc ms free) (vx_Post XC mc ms free) := by
  obtain ⟨hrc, hrs, hfr, hlo, hws, hcw, -, hini, -⟩ := cb
  exact vx_back (bytes := bytes) (maxL := maxL) (ret := ret) hM hbl hrc hrs hfr hlo hws hcw (fun a' U hW => word_at hW (Or.inl (by first | rfl | simp [Cond.onTables, Cond.keeps, Cond.steady])) hini)
theorem vx_runV (S : CallFix p m c cc nL s args Ts own) (hM : vx_Met l y ws rm Pc Qc XC mc ms free) (cw : CallW R s args own C index y bytes maxL ret ws rm mc ms n) (hp : PreV s H C b Pc As)
    (hg : g.method = m) (hn : As.length = n) (hsize : g.locals.size = nL) (hstack : g.stack = As.reverse ++ .ref b :: rest) (hW : 2 * g.monitorRoom + (rest.map fun v => v.category).sum ≤ 8) (hdg : decode cc g.pc = .ok (.invokevirtual index, 3)) (hf : cells + mc ≤ R.cells ∧ slots + ms ≤ R.slots) :
    vx_Run p l e R s m args below meth c H locs cells slots mc ms g rest (Qc (Value.ref b :: As).toArray) XC free := by
  have hK : vx_Back l R p e below s args y 3 8 (PreOf R mc ms Pc) (PostOf Qc mc ms free) (vx_Post XC mc ms free) := vx_callBack cw.1 hM hp.1
  obtain ⟨⟨-, -, -, -, -, -, hcode, -, hy, hlen, hl⟩, hin, hse⟩ := cw
  obtain ⟨hx, hb, hml, ho, -⟩ := S
  obtain ⟨-, ⟨cellB, hcB, hoB, hclB⟩, hPc⟩ := hp
  intro T hT X
  rcases vx_callV X hx (C := C) (bytes := bytes) (maxL := maxL) (ret := ret) ho hl hin hse hcode hy hK (by rw [hT]; exact hcB) hoB hclB hg (hsize.trans hml.symm) (argsL := As) (rest := rest) (fun sig h => hn.trans (hlen sig h)) hstack hW (by rw [hb]; exact hdg)
    (fun vm₁ hW₁ => ⟨hf.1, hf.2, hPc (T.setVm vm₁) hT hW₁⟩) with ⟨v, vm₁, ⟨U', l2, c2, s2⟩, hW₁, X', ⟨g', mk, t, L, e1, e2, hq, h1, hL, h2, h3⟩, st⟩ | ⟨q, vm₁, ⟨U', l2, c2, s2⟩, hW₁, X', ⟨g', mk, t, L, E, ce, e1, e2, hq, hce, hcv, hcl, h1, hL, h2, h3⟩, st⟩
  · dsimp only [Pt.U, Pt.locs, Pt.cells, Pt.slots] at X' e1 e2 h1 h2 h3 st
    subst h1; subst h2; subst h3
    exact Or.inl ⟨v, (T.setVm vm₁).calling g' mk (Value.ref b :: As).toArray, t, U', L, hT, X', hL, e1, e2, hq, st⟩
  · dsimp only [Pt.U, Pt.locs, Pt.cells, Pt.slots] at X' e1 e2 h1 h2 h3 st hcl
    subst h1; subst h2; subst h3
    exact Or.inr ⟨q, (T.setVm vm₁).calling g' mk (Value.ref b :: As).toArray, t, U', L, E, ce, hT, X', hL, e1, e2, hq, hce, hcv, vx_cls hW₁ hcl, st⟩
theorem vx_runS (S : CallFix p m c cc nL s args Ts own) (hM : vx_Met l y ws rm Pc Qc XC mc ms free) (cw : CallB R s args own index y bytes maxL ret ws rm mc ms n ∧ (Cond.static y).before args s = true) (hp : PreS s H Pc As)
    (hg : g.method = m) (hn : As.length = n) (hsize : g.locals.size = nL) (hstack : g.stack = As.reverse ++ rest) (hW : 2 * g.monitorRoom + (rest.map fun v => v.category).sum ≤ 8) (hdg : decode cc g.pc = .ok (.invokestatic index, 3)) (hf : cells + mc ≤ R.cells ∧ slots + ms ≤ R.slots) :
    vx_Run p l e R s m args below meth c H locs cells slots mc ms g rest (Qc As.toArray) XC free := by
  have hK : vx_Back l R p e below s args y 3 8 (PreOf R mc ms Pc) (PostOf Qc mc ms free) (vx_Post XC mc ms free) := vx_callBack cw.1 hM hp.1
  obtain ⟨⟨-, -, -, -, -, -, hcode, hini, hy, hlen, hl⟩, hstt⟩ := cw
  obtain ⟨hx, hb, hml, ho, -⟩ := S
  intro T hT X
  rcases vx_callS X hx (bytes := bytes) (maxL := maxL) (ret := ret) ho hl hstt hini hcode hy hK hg (hsize.trans hml.symm) (argsL := As) (rest := rest) (fun sig h => hn.trans (hlen sig h)) hstack hW (by rw [hb]; exact hdg)
    (fun vm₁ hW₁ => ⟨hf.1, hf.2, hp.2 (T.setVm vm₁) hT hW₁⟩) with ⟨v, vm₁, ⟨U', l2, c2, s2⟩, hW₁, X', ⟨g', mk, t, L, e1, e2, hq, h1, hL, h2, h3⟩, st⟩ | ⟨q, vm₁, ⟨U', l2, c2, s2⟩, hW₁, X', ⟨g', mk, t, L, E, ce, e1, e2, hq, hce, hcv, hcl, h1, hL, h2, h3⟩, st⟩
  · dsimp only [Pt.U, Pt.locs, Pt.cells, Pt.slots] at X' e1 e2 h1 h2 h3 st
    subst h1; subst h2; subst h3
    exact Or.inl ⟨v, (T.setVm vm₁).calling g' mk As.toArray, t, U', L, hT, X', hL, e1, e2, hq, st⟩
  · dsimp only [Pt.U, Pt.locs, Pt.cells, Pt.slots] at X' e1 e2 h1 h2 h3 st hcl
    subst h1; subst h2; subst h3
    exact Or.inr ⟨q, (T.setVm vm₁).calling g' mk As.toArray, t, U', L, E, ce, hT, X', hL, e1, e2, hq, hce, hcv, vx_cls hW₁ hcl, st⟩
end Runs
section Rows
variable {p : Program} {l : Launch} {e : Env} {R : Room} {s : State} {m : MethodId} {args : Array Value} {below : List Frame} {meth : Method} {c : Code} {H : Heap} {locs : List Loc} {cells slots : Nat} {Q : State → Prop}
variable {mc ms : Nat} {free : Addr → Prop} {A0 A1 : Nat → Prop} {H0 : Heap} {a : Array Value} {pc : Nat} {ls : Array Slot} {st0 rest : List Value}
theorem vx_keep {st₀ t T' : State} {L : List Loc} (h0 : st₀.heap = H) (e1 : T'.heap = t.heap) (hS : va_S A0 H0 H locs) (hA : ∀ q, q < H.size → A1 q → A0 q) (hf : ∀ q, free q → A0 q) (hL : ∀ q ∈ L, free q.base) (hF : va_F A1 st₀ t) :
    H.size ≤ T'.heap.size ∧ (∀ q : Nat, q < H.size → ¬ A1 q → T'.heap[q]? = H[q]?) ∧ va_S A0 H0 T'.heap (locs ++ L) := by
  obtain ⟨hz, hk⟩ := hF
  rw [h0] at hz hk
  exact ⟨by rw [e1]; exact hz, fun q h1 h2 => by rw [e1]; exact hk q h1 h2,
    ⟨Nat.le_trans hS.1 (by rw [e1]; exact hz), fun q h1 h2 => by rw [e1, hk q (Nat.lt_of_lt_of_le h1 hS.1) (fun z => h2 (hA q (Nat.lt_of_lt_of_le h1 hS.1) z))]; exact hS.2.1 q h1 h2, fun q hq => by
      rcases List.mem_append.mp hq with h | h
      · exact hS.2.2 q h
      · exact hf _ (hL q h)⟩⟩
theorem vx_calli {S SX : Type} {post : Int32 → S → Prop} {px : SX → Prop} {B : S → State → Prop} {BX : String → SX → State → Prop} {AX : Nat → Prop} (hr : vx_Run p l e R s m args below meth c H locs cells slots mc ms (F0 m pc ls st0) rest (va_Qi post B A1 a) (vx_X px BX AX) free) (hS : va_S A0 H0 H locs) (hA : ∀ q, q < H.size → A1 q → A0 q) (hf : ∀ q, free q → A0 q) (hAX : ∀ q, q < H.size → AX q → A0 q)
    (kx : ∀ (E : String) (ce : Cell) (q9 : Addr) (u : SX) (t : State) (H1 : Heap) (locs1 : List Loc), t.heap = H1 → s.vm.Alike t.vm → px u → BX E u t → H.size ≤ H1.size → (∀ q : Nat, q < H.size → ¬ AX q → H1[q]? = H[q]?) → va_S A0 H0 H1 locs1 → H1[q9]? = some ce → ce.vm = .none → s.vm.findClass E = some ce.cls → vx_W p l e R s m args below meth c H1 locs1 (cells + mc) (slots + ms) Q (F0 m pc ls rest) q9)
    (kk : ∀ (r : Int32) (u : S) (t : State) (H1 : Heap) (locs1 : List Loc), t.heap = H1 → s.vm.Alike t.vm → post r u → B u t → H.size ≤ H1.size → (∀ q : Nat, q < H.size → ¬ A1 q → H1[q]? = H[q]?) → va_S A0 H0 H1 locs1 → W p l e R s m args below meth c H1 locs1 (cells + mc) (slots + ms) Q (F0 m (pc + 3) ls (.int r :: rest))) : W p l e R s m args below meth c H locs cells slots Q (F0 m pc ls st0) := by
  intro T hT X
  rcases hr T hT X with ⟨v, st₀, t, T', L, h0, X', hL, e1, e2, ⟨⟨r, u, hv, hp, hb⟩, hF⟩, st⟩ | ⟨q, st₀, t, T', L, E, ce, h0, X', hL, e1, e2, ⟨u, hp, hb, hF⟩, hce, hcv, hcl, st⟩
  · cases hv
    obtain ⟨k1, k2, k3⟩ := vx_keep h0 e1 hS hA hf hL hF
    obtain ⟨t2, a1, b1⟩ := kk r u t T'.heap (locs ++ L) e1.symm (by rw [← e2]; exact X'.warmed.alike) hp hb k1 k2 k3 T' rfl X'
    exact ⟨t2, st t2 a1, b1⟩
  · obtain ⟨k1, k2, k3⟩ := vx_keep h0 e1 hS hAX hf hL hF
    obtain ⟨t2, a1, b1⟩ := kx E ce q u t T'.heap (locs ++ L) e1.symm (by rw [← e2]; exact X'.warmed.alike) hp hb k1 k2 k3 (by rw [e1]; exact hce) hcv hcl T' rfl X'
    exact ⟨t2, st.trans a1, b1⟩
theorem vx_calll {S SX : Type} {post : Int64 → S → Prop} {px : SX → Prop} {B : S → State → Prop} {BX : String → SX → State → Prop} {AX : Nat → Prop} (hr : vx_Run p l e R s m args below meth c H locs cells slots mc ms (F0 m pc ls st0) rest (va_Ql post B A1 a) (vx_X px BX AX) free) (hS : va_S A0 H0 H locs) (hA : ∀ q, q < H.size → A1 q → A0 q) (hf : ∀ q, free q → A0 q) (hAX : ∀ q, q < H.size → AX q → A0 q)
    (kx : ∀ (E : String) (ce : Cell) (q9 : Addr) (u : SX) (t : State) (H1 : Heap) (locs1 : List Loc), t.heap = H1 → s.vm.Alike t.vm → px u → BX E u t → H.size ≤ H1.size → (∀ q : Nat, q < H.size → ¬ AX q → H1[q]? = H[q]?) → va_S A0 H0 H1 locs1 → H1[q9]? = some ce → ce.vm = .none → s.vm.findClass E = some ce.cls → vx_W p l e R s m args below meth c H1 locs1 (cells + mc) (slots + ms) Q (F0 m pc ls rest) q9)
    (kk : ∀ (r : Int64) (u : S) (t : State) (H1 : Heap) (locs1 : List Loc), t.heap = H1 → s.vm.Alike t.vm → post r u → B u t → H.size ≤ H1.size → (∀ q : Nat, q < H.size → ¬ A1 q → H1[q]? = H[q]?) → va_S A0 H0 H1 locs1 → W p l e R s m args below meth c H1 locs1 (cells + mc) (slots + ms) Q (F0 m (pc + 3) ls (.long r :: rest))) : W p l e R s m args below meth c H locs cells slots Q (F0 m pc ls st0) := by
  intro T hT X
  rcases hr T hT X with ⟨v, st₀, t, T', L, h0, X', hL, e1, e2, ⟨⟨r, u, hv, hp, hb⟩, hF⟩, st⟩ | ⟨q, st₀, t, T', L, E, ce, h0, X', hL, e1, e2, ⟨u, hp, hb, hF⟩, hce, hcv, hcl, st⟩
  · cases hv
    obtain ⟨k1, k2, k3⟩ := vx_keep h0 e1 hS hA hf hL hF
    obtain ⟨t2, a1, b1⟩ := kk r u t T'.heap (locs ++ L) e1.symm (by rw [← e2]; exact X'.warmed.alike) hp hb k1 k2 k3 T' rfl X'
    exact ⟨t2, st t2 a1, b1⟩
  · obtain ⟨k1, k2, k3⟩ := vx_keep h0 e1 hS hAX hf hL hF
    obtain ⟨t2, a1, b1⟩ := kx E ce q u t T'.heap (locs ++ L) e1.symm (by rw [← e2]; exact X'.warmed.alike) hp hb k1 k2 k3 (by rw [e1]; exact hce) hcv hcl T' rfl X'
    exact ⟨t2, st.trans a1, b1⟩
theorem vx_callf {S SX : Type} {post : UInt32 → S → Prop} {px : SX → Prop} {B : S → State → Prop} {BX : String → SX → State → Prop} {AX : Nat → Prop} (hr : vx_Run p l e R s m args below meth c H locs cells slots mc ms (F0 m pc ls st0) rest (va_Qf post B A1 a) (vx_X px BX AX) free) (hS : va_S A0 H0 H locs) (hA : ∀ q, q < H.size → A1 q → A0 q) (hf : ∀ q, free q → A0 q) (hAX : ∀ q, q < H.size → AX q → A0 q)
    (kx : ∀ (E : String) (ce : Cell) (q9 : Addr) (u : SX) (t : State) (H1 : Heap) (locs1 : List Loc), t.heap = H1 → s.vm.Alike t.vm → px u → BX E u t → H.size ≤ H1.size → (∀ q : Nat, q < H.size → ¬ AX q → H1[q]? = H[q]?) → va_S A0 H0 H1 locs1 → H1[q9]? = some ce → ce.vm = .none → s.vm.findClass E = some ce.cls → vx_W p l e R s m args below meth c H1 locs1 (cells + mc) (slots + ms) Q (F0 m pc ls rest) q9)
    (kk : ∀ (r : UInt32) (u : S) (t : State) (H1 : Heap) (locs1 : List Loc), t.heap = H1 → s.vm.Alike t.vm → post r u → B u t → H.size ≤ H1.size → (∀ q : Nat, q < H.size → ¬ A1 q → H1[q]? = H[q]?) → va_S A0 H0 H1 locs1 → W p l e R s m args below meth c H1 locs1 (cells + mc) (slots + ms) Q (F0 m (pc + 3) ls (.float r :: rest))) : W p l e R s m args below meth c H locs cells slots Q (F0 m pc ls st0) := by
  intro T hT X
  rcases hr T hT X with ⟨v, st₀, t, T', L, h0, X', hL, e1, e2, ⟨⟨r, u, hv, hp, hb⟩, hF⟩, st⟩ | ⟨q, st₀, t, T', L, E, ce, h0, X', hL, e1, e2, ⟨u, hp, hb, hF⟩, hce, hcv, hcl, st⟩
  · cases hv
    obtain ⟨k1, k2, k3⟩ := vx_keep h0 e1 hS hA hf hL hF
    obtain ⟨t2, a1, b1⟩ := kk r u t T'.heap (locs ++ L) e1.symm (by rw [← e2]; exact X'.warmed.alike) hp hb k1 k2 k3 T' rfl X'
    exact ⟨t2, st t2 a1, b1⟩
  · obtain ⟨k1, k2, k3⟩ := vx_keep h0 e1 hS hAX hf hL hF
    obtain ⟨t2, a1, b1⟩ := kx E ce q u t T'.heap (locs ++ L) e1.symm (by rw [← e2]; exact X'.warmed.alike) hp hb k1 k2 k3 (by rw [e1]; exact hce) hcv hcl T' rfl X'
    exact ⟨t2, st.trans a1, b1⟩
theorem vx_calld {S SX : Type} {post : UInt64 → S → Prop} {px : SX → Prop} {B : S → State → Prop} {BX : String → SX → State → Prop} {AX : Nat → Prop} (hr : vx_Run p l e R s m args below meth c H locs cells slots mc ms (F0 m pc ls st0) rest (va_Qd post B A1 a) (vx_X px BX AX) free) (hS : va_S A0 H0 H locs) (hA : ∀ q, q < H.size → A1 q → A0 q) (hf : ∀ q, free q → A0 q) (hAX : ∀ q, q < H.size → AX q → A0 q)
    (kx : ∀ (E : String) (ce : Cell) (q9 : Addr) (u : SX) (t : State) (H1 : Heap) (locs1 : List Loc), t.heap = H1 → s.vm.Alike t.vm → px u → BX E u t → H.size ≤ H1.size → (∀ q : Nat, q < H.size → ¬ AX q → H1[q]? = H[q]?) → va_S A0 H0 H1 locs1 → H1[q9]? = some ce → ce.vm = .none → s.vm.findClass E = some ce.cls → vx_W p l e R s m args below meth c H1 locs1 (cells + mc) (slots + ms) Q (F0 m pc ls rest) q9)
    (kk : ∀ (r : UInt64) (u : S) (t : State) (H1 : Heap) (locs1 : List Loc), t.heap = H1 → s.vm.Alike t.vm → post r u → B u t → H.size ≤ H1.size → (∀ q : Nat, q < H.size → ¬ A1 q → H1[q]? = H[q]?) → va_S A0 H0 H1 locs1 → W p l e R s m args below meth c H1 locs1 (cells + mc) (slots + ms) Q (F0 m (pc + 3) ls (.double r :: rest))) : W p l e R s m args below meth c H locs cells slots Q (F0 m pc ls st0) := by
  intro T hT X
  rcases hr T hT X with ⟨v, st₀, t, T', L, h0, X', hL, e1, e2, ⟨⟨r, u, hv, hp, hb⟩, hF⟩, st⟩ | ⟨q, st₀, t, T', L, E, ce, h0, X', hL, e1, e2, ⟨u, hp, hb, hF⟩, hce, hcv, hcl, st⟩
  · cases hv
    obtain ⟨k1, k2, k3⟩ := vx_keep h0 e1 hS hA hf hL hF
    obtain ⟨t2, a1, b1⟩ := kk r u t T'.heap (locs ++ L) e1.symm (by rw [← e2]; exact X'.warmed.alike) hp hb k1 k2 k3 T' rfl X'
    exact ⟨t2, st t2 a1, b1⟩
  · obtain ⟨k1, k2, k3⟩ := vx_keep h0 e1 hS hAX hf hL hF
    obtain ⟨t2, a1, b1⟩ := kx E ce q u t T'.heap (locs ++ L) e1.symm (by rw [← e2]; exact X'.warmed.alike) hp hb k1 k2 k3 (by rw [e1]; exact hce) hcv hcl T' rfl X'
    exact ⟨t2, st.trans a1, b1⟩
theorem vx_callv {S SX : Type} {post : S → Prop} {px : SX → Prop} {B : S → State → Prop} {BX : String → SX → State → Prop} {AX : Nat → Prop} (hr : vx_Run p l e R s m args below meth c H locs cells slots mc ms (F0 m pc ls st0) rest (va_Qv post B A1 a) (vx_X px BX AX) free) (hS : va_S A0 H0 H locs) (hA : ∀ q, q < H.size → A1 q → A0 q) (hf : ∀ q, free q → A0 q) (hAX : ∀ q, q < H.size → AX q → A0 q)
    (kx : ∀ (E : String) (ce : Cell) (q9 : Addr) (u : SX) (t : State) (H1 : Heap) (locs1 : List Loc), t.heap = H1 → s.vm.Alike t.vm → px u → BX E u t → H.size ≤ H1.size → (∀ q : Nat, q < H.size → ¬ AX q → H1[q]? = H[q]?) → va_S A0 H0 H1 locs1 → H1[q9]? = some ce → ce.vm = .none → s.vm.findClass E = some ce.cls → vx_W p l e R s m args below meth c H1 locs1 (cells + mc) (slots + ms) Q (F0 m pc ls rest) q9)
    (kk : ∀ (u : S) (t : State) (H1 : Heap) (locs1 : List Loc), t.heap = H1 → s.vm.Alike t.vm → post u → B u t → H.size ≤ H1.size → (∀ q : Nat, q < H.size → ¬ A1 q → H1[q]? = H[q]?) → va_S A0 H0 H1 locs1 → W p l e R s m args below meth c H1 locs1 (cells + mc) (slots + ms) Q (F0 m (pc + 3) ls (rest))) : W p l e R s m args below meth c H locs cells slots Q (F0 m pc ls st0) := by
  intro T hT X
  rcases hr T hT X with ⟨v, st₀, t, T', L, h0, X', hL, e1, e2, ⟨⟨u, hv, hp, hb⟩, hF⟩, st⟩ | ⟨q, st₀, t, T', L, E, ce, h0, X', hL, e1, e2, ⟨u, hp, hb, hF⟩, hce, hcv, hcl, st⟩
  · cases hv
    obtain ⟨k1, k2, k3⟩ := vx_keep h0 e1 hS hA hf hL hF
    obtain ⟨t2, a1, b1⟩ := kk u t T'.heap (locs ++ L) e1.symm (by rw [← e2]; exact X'.warmed.alike) hp hb k1 k2 k3 T' rfl X'
    exact ⟨t2, st t2 a1, b1⟩
  · obtain ⟨k1, k2, k3⟩ := vx_keep h0 e1 hS hAX hf hL hF
    obtain ⟨t2, a1, b1⟩ := kx E ce q u t T'.heap (locs ++ L) e1.symm (by rw [← e2]; exact X'.warmed.alike) hp hb k1 k2 k3 (by rw [e1]; exact hce) hcv hcl T' rfl X'
    exact ⟨t2, st.trans a1, b1⟩
/-- caught by the row x of this method's table; the rows ahead don't take it -/
theorem vx_catch {own name : String} {E : String} {ce : Cell} {q : Addr} (hown : s.vm.findClass own = some m.cls) (pre : List ExceptionTableEntry) (x : ExceptionTableEntry) (suf : List ExceptionTableEntry) (hsplit : c.exceptionTable.toList = pre ++ x :: suf)
    (hpass : ∀ z ∈ pre, covers z pc = false ∨ (z.catchType ≠ 0 ∧ ∃ nm : String, (Cond.classLink own z.catchType nm).before args s = true ∧ va_Nc E nm s)) (hx : covers x pc = true) (h0 : x.catchType ≠ 0)
    (hlink : (Cond.classLink own x.catchType name).before args s = true) (hcast : (Cond.castable E name).before args s = true) (hcell : H[q]? = some ce) (hv : ce.vm = .none) (hcl : s.vm.findClass E = some ce.cls)
    (kk : W p l e R s m args below meth c H locs cells slots Q (F0 m x.handlerPc ls [.ref q])) : vx_W p l e R s m args below meth c H locs cells slots Q (F0 m pc ls rest) q := by
  intro T hT X
  have hpl : e.platform.magicAccessors = ({} : Platform).magicAccessors := by rw [X.admits.platform]
  obtain ⟨c3, c4, hc3, hc4, hasg⟩ := Cond.castable_spec hcast
  cases Option.some.inj (hc3.symm.trans hcl)
  obtain ⟨c5, hc5, hcl5⟩ := Cond.classLink_spec hown hlink e.platform hpl
  cases Option.some.inj (hc4.symm.trans hc5)
  obtain ⟨vm', X', st⟩ := X.thenCaughtThrough q (g := F0 m pc ls rest) rfl (Steps.refl _) (by rw [hT]; exact hcell) (by rw [hv]; rfl) (by obtain ⟨k9, h9, -⟩ := Vm.findClass_spec hcl; exact ⟨k9, h9⟩) pre x suf hsplit
    (fun z hz => by
      rcases hpass z hz with h | ⟨hz0, nm, hl1, hn1⟩
      · exact Or.inl h
      · obtain ⟨c6, hc6, hcl6⟩ := Cond.classLink_spec hown hl1 e.platform hpl
        obtain ⟨a8, b8, h1, h2, h3⟩ := hn1
        cases Option.some.inj (h1.symm.trans hcl)
        cases Option.some.inj (h2.symm.trans hc6)
        exact Or.inr ⟨hz0, _, hcl6, h3⟩) hx (Or.inr ⟨h0, c4, hcl5, hasg⟩)
  obtain ⟨t, a1, b1⟩ := kk (T.setVm vm') hT X'
  exact ⟨t, st.trans a1, b1⟩
end Rows
section Ends
variable {p : Program} {l : Launch} {e : Env} {R : Room} {s : State} {m : MethodId} {args : Array Value} {below : List Frame} {meth : Method} {c : Code} {H : Heap} {locs : List Loc} {cells slots : Nat} {Q : State → Prop}
variable {mc ms : Nat} {free : Addr → Prop} {A0 A1 : Nat → Prop} {H0 : Heap} {a : Array Value} {ls : Array Slot} {st0 rest : List Value}
variable {Qc : Array Value → State → Outcome → State → Prop} {XC : String → State → State → Prop}
/-- what a body that may throw owes at its end -/
def vx_MQ (below : List Frame) (Qc : Array Value → State → Outcome → State → Prop) (XC : String → State → State → Prop) (a : Array Value) (s : State) (mc ms : Nat) (free : Addr → Prop) : State → Prop := fun t =>
  ∃ o, t.status = .running ∧ Ended t below o ∧ vx_Q Qc XC mc ms free a s o t
theorem vx_ret {g : JFrame} {mc ms : Nat} (k : W p l e R s m args below meth c H locs cells slots (MQ below Qc args s mc ms free) g) : W p l e R s m args below meth c H locs cells slots (vx_MQ below Qc XC args s mc ms free) g := by
  intro T hT X
  obtain ⟨t, a1, o, b1, b2, b3, b4⟩ := k T hT X
  exact ⟨t, a1, o, b1, b2, Or.inl ⟨b3, b4⟩⟩
/-- not caught here: it goes on to the caller -/
theorem vx_widen {g : JFrame} {q : Addr} {k n : Nat} (h1 : cells ≤ k) (h2 : slots ≤ n) (kk : vx_W p l e R s m args below meth c H locs k n Q g q) : vx_W p l e R s m args below meth c H locs cells slots Q g q := fun T hT X => kk T hT (stand_widen X h1 h2)
theorem vx_out {pc : Nat} {E : String} {ce : Cell} {q : Addr} {mc ms : Nat} (hout : ∀ x ∈ c.exceptionTable.toList, covers x pc = false) (hlocks : meth.locks = false) (hcell : H[q]? = some ce) (hv : ce.vm = .none) (hcl : s.vm.findClass E = some ce.cls)
    (hx : ∀ t : State, t.heap = H → s.vm.Alike t.vm → XC E s t) (hf : ∀ z ∈ locs, free z.base) (hc : cells ≤ mc) (hs : slots ≤ ms) :
    vx_W p l e R s m args below meth c H locs cells slots (vx_MQ below Qc XC args s mc ms free) (F0 m pc ls rest) q := by
  intro T hT X
  obtain ⟨st1, hrun, hend, hW, hsm⟩ := X.leaveThrown q (g := F0 m pc ls rest) rfl rfl rfl hout hlocks
  have hcell9 : (T.setFrames (.throwing q :: below)).heap[q]? = some ce := by
    show T.heap[q]? = some ce
    rw [hT]; exact hcell
  exact ⟨_, st1, .threw q, hrun, hend, Or.inr ⟨q, rfl, E, ce, locs, hx _ hT hW.alike, hcell9, hv, hcl, hW, hsm.mono hc hs, hf⟩⟩
theorem vx_frame {U : State} {k n : Nat} (h : s.sameButNew ({ U with vm := s.vm } : State) locs k n) : s.heap.size ≤ U.heap.size ∧ ∀ q : Nat, q < s.heap.size → (∀ z ∈ locs, z.base ≠ q) → U.heap[q]? = s.heap[q]? := by
  obtain ⟨-, h2, -, -, -, h6⟩ := h
  refine ⟨h2, fun q hq hz => ?_⟩
  obtain ⟨c9, e1, e2, e3, e4⟩ := h6 q _ (Array.getElem?_eq_getElem hq)
  have hs : c9.slots = (s.heap[q]).slots := Array.ext_getElem? fun i => e4 i fun hm => hz _ hm rfl
  have h9 : c9 = s.heap[q] := by
    rw [hs] at e2
    exact e2
  have e5 : U.heap[q]? = some c9 := e1
  rw [e5, h9, Array.getElem?_eq_getElem hq]
/-- the words of a throw but the four that speak of the heap -/
def vx_no (w : Cond) : Bool := decide (w ≠ .isRef (.static Bundle.tN "UNASSIGNED_STACK" Bundle.steD)) && decide (w ≠ .isRef (.static Bundle.tN "SUPPRESSED_SENTINEL" Bundle.listD)) && decide (w ≠ .laysStatic Bundle.tN "UNASSIGNED_STACK" Bundle.steD) && decide (w ≠ .laysStatic Bundle.tN "SUPPRESSED_SENTINEL" Bundle.listD)
def vx_at0 (own : String) (ic : Nat) (X : String) (names : List String) : List Cond := (Bundle.ownAtoms0 own ic X names).filter vx_no
def vx_atS (own : String) (ic : Nat) (X : String) (names : List String) : List Cond := (Bundle.ownAtoms own ic X names).filter vx_no
/-- a word that the tables alone decide, or a good one -/
def vx_ot (w : Cond) : Bool := w.onTables || goodWord w
theorem vx_ot_at {args a' : Array Value} {s U : State} {w : Cond} (hW : s.WarmedH U.vm) (hvm : s.vm = U.vm) (hg : vx_ot w = true) (h : w.before args s = true) : w.before a' U = true := by
  simp only [vx_ot, Bool.or_eq_true] at hg
  rcases hg with hg | hg
  · exact va_tabs hg hvm h
  · exact word_at hW (good_of_word hg) h
/-- a list's words: the good ones out of the method's own list, the others by premises of their own -/
theorem vx_hat {args : Array Value} {s : State} {L B : List Cond} (h1 : ∀ w ∈ L.filter goodWord, w.before args s = true) (h2 : ∀ w ∈ L.filter (fun w => !goodWord w), w ∈ B) (h3 : ∀ w ∈ B, w.before args s = true) : ∀ w ∈ L, w.before args s = true := by
  intro w hw
  by_cases g : goodWord w = true
  · exact h1 w (List.mem_filter.mpr ⟨hw, g⟩)
  · refine h3 w (h2 w (List.mem_filter.mpr ⟨hw, ?_⟩))
    show (!goodWord w) = true
    cases hgw : goodWord w
    · rfl
    · exact absurd hgw g
theorem vx_c {args : Array Value} {s : State} {w : Cond} {B : List Cond} (h : w.before args s = true) (t : ∀ w ∈ B, w.before args s = true) : ∀ w' ∈ w :: B, w'.before args s = true := fun w' h' => (List.mem_cons.mp h').elim (fun e => by rw [e]; exact h) (t w')
theorem vx_n {args : Array Value} {s : State} : ∀ w ∈ ([] : List Cond), w.before args s = true := fun _ h => nomatch h
theorem vx_own {args : Array Value} {s : State} {L : List Cond} (h1 : ∀ w ∈ L.filter vx_no, w.before args s = true)
    (hU : (Cond.isRef (.static Bundle.tN "UNASSIGNED_STACK" Bundle.steD)).before args s = true) (hN : (Cond.isRef (.static Bundle.tN "SUPPRESSED_SENTINEL" Bundle.listD)).before args s = true)
    (lU : (Cond.laysStatic Bundle.tN "UNASSIGNED_STACK" Bundle.steD).before args s = true) (lN : (Cond.laysStatic Bundle.tN "SUPPRESSED_SENTINEL" Bundle.listD).before args s = true) : ∀ w ∈ L, w.before args s = true := by
  intro w hw
  by_cases e1 : w = .isRef (.static Bundle.tN "UNASSIGNED_STACK" Bundle.steD)
  · rw [e1]; exact hU
  · by_cases e2 : w = .isRef (.static Bundle.tN "SUPPRESSED_SENTINEL" Bundle.listD)
    · rw [e2]; exact hN
    · by_cases e3 : w = .laysStatic Bundle.tN "UNASSIGNED_STACK" Bundle.steD
      · rw [e3]; exact lU
      · by_cases e4 : w = .laysStatic Bundle.tN "SUPPRESSED_SENTINEL" Bundle.listD
        · rw [e4]; exact lN
        · exact h1 w (List.mem_filter.mpr ⟨hw, by unfold vx_no; rw [decide_eq_true e1, decide_eq_true e2, decide_eq_true e3, decide_eq_true e4]; rfl⟩)
/-- where a static field lies, its class's statics cell in H -/
def vx_L (C n d : String) (A : Nat → Prop) (U : State) (H : Heap) : Prop := ∃ (c : ClassId) (k : Class) (i : Nat) (f : Field) (a : Nat) (cell : Cell), U.vm.findClass C = some c ∧ U.fieldFound? C n d = some (c, k, i, f) ∧ f.isStatic = true ∧ k.statics = some a ∧ H[a]? = some cell ∧ cell.vm.isStatics = true ∧ cell.cls = c ∧ f.slot < cell.slots.size ∧ k.staticTypes[f.slot]? = some f.type ∧ ¬ A a
theorem vx_L.moved {C n d : String} {A : Nat → Prop} {u U : State} {H : Heap} (hvm : u.vm.Alike U.vm) (h : vx_L C n d A u H) : vx_L C n d A U H := by
  obtain ⟨c, k, i, f, a, cell, h1, h2, h3, h4, h5, h6, h7, h8, h9, h10⟩ := h
  obtain ⟨k', hi', he⟩ := State.fieldFound?_setVm hvm h2
  exact ⟨c, k', i, f, a, cell, by rw [hvm.findClass]; exact h1, hi', h3, by rw [he]; exact h4, h5, h6, h7, h8, by rw [he]; exact h9, h10⟩
theorem vx_L.kept {C n d : String} {A : Nat → Prop} {U : State} {H H1 : Heap} (h : vx_L C n d A U H) (hq : ∀ a : Nat, a < H.size → ¬ A a → H1[a]? = H[a]?) : vx_L C n d A U H1 := by
  obtain ⟨c, k, i, f, a, cell, h1, h2, h3, h4, h5, h6, h7, h8, h9, h10⟩ := h
  exact ⟨c, k, i, f, a, cell, h1, h2, h3, h4, by rw [hq a (Array.getElem?_eq_some_iff.mp h5).1 h10]; exact h5, h6, h7, h8, h9, h10⟩
theorem vx_L.narrow {C n d : String} {A B : Nat → Prop} {U : State} {H : Heap} (h : vx_L C n d A U H) (hAB : ∀ q, B q → A q) : vx_L C n d B U H := by
  obtain ⟨c, k, i, f, a, cell, h1, h2, h3, h4, h5, h6, h7, h8, h9, h10⟩ := h
  exact ⟨c, k, i, f, a, cell, h1, h2, h3, h4, h5, h6, h7, h8, h9, fun z => h10 (hAB _ z)⟩
theorem vx_L.word {C n d : String} {A : Nat → Prop} {s : State} {args : Array Value} (h : vx_L C n d A s s.heap) : (Cond.laysStatic C n d).before args s = true := by
  obtain ⟨c, k, i, f, a, cell, h1, h2, h3, h4, h5, h6, h7, h8, h9, -⟩ := h
  show (Cond.laysStatic C n d).holds args s none s [] = true
  exact Cond.laysStatic_of h1 h2 h3 h4 h5 h6 h7 h8 h9
/-- .. and what it holds: null or some reference -/
def vx_Zq (C n d : String) (A : Nat → Prop) (U : State) (H : Heap) : Prop := va_Zq C n d A U H ∧ vx_L C n d A U H
theorem vx_Zq.moved {C n d : String} {A : Nat → Prop} {u U : State} {H : Heap} (hvm : u.vm.Alike U.vm) (h : vx_Zq C n d A u H) : vx_Zq C n d A U H := ⟨va_Zq.moved hvm h.1, vx_L.moved hvm h.2⟩
theorem vx_Zq.kept {C n d : String} {A : Nat → Prop} {U : State} {H H1 : Heap} (h : vx_Zq C n d A U H) (hq : ∀ a : Nat, a < H.size → ¬ A a → H1[a]? = H[a]?) : vx_Zq C n d A U H1 := ⟨va_Zq.kept h.1 hq, vx_L.kept h.2 hq⟩
theorem vx_Zq.narrow {C n d : String} {A B : Nat → Prop} {U : State} {H : Heap} (h : vx_Zq C n d A U H) (hAB : ∀ q, B q → A q) : vx_Zq C n d B U H := ⟨va_Zq.narrow h.1 hAB, vx_L.narrow h.2 hAB⟩
theorem vx_Zqof {args : Array Value} {s : State} {C n d : String} {A : Nat → Prop} (hl : (Cond.laysStatic C n d).before args s = true) (hini : (Cond.initialized C).before args s = true) (h : (Cond.isRef (.static C n d)).before args s = true) (hA : ∀ a : Nat, a < s.heap.size → ¬ A a) : vx_Zq C n d A s s.heap := by
  refine ⟨va_Zqof hl hini h hA, ?_⟩
  obtain ⟨c, k, i, f, a, cell, h1, h2, h3, h4, h5, h6, h7, h8, h9⟩ := Cond.laysStatic_spec hl
  exact ⟨c, k, i, f, a, cell, h1, h2, h3, h4, h5, h6, h7, h8, h9, hA a (Array.getElem?_eq_some_iff.mp h5).1⟩
theorem vx_isRef {C n d : String} {v : Value} {A : Nat → Prop} {s : State} {args : Array Value} (h : va_Z C n d v A s s.heap) (hv : v.isRef = true) : (Cond.isRef (.static C n d)).before args s = true := by
  obtain ⟨cf, kf, fi, f, a, cell, h1, h2, h3, h4, h5, h6, h7, -⟩ := h
  have he : (Term.static C n d).eval args s none [] s = some v := by
    simp [Term.eval, State.fieldNamed?, h1, h2, h4, h5, h6, h7]
  simp only [Cond.before, Cond.holds, Cond.value, he]
  cases v <;> simp_all [Value.isRef]
theorem vx_isRefq {C n d : String} {A : Nat → Prop} {s : State} {args : Array Value} (h : va_Zq C n d A s s.heap) : (Cond.isRef (.static C n d)).before args s = true := by
  rcases h with h | ⟨t, h⟩
  · exact vx_isRef h rfl
  · exact vx_isRef h rfl
/-- the same frame, seen from here: as if the method were called anew in this heap -/
theorem vx_rebase {T : State} (X : Stand p l e R s m args below meth c T locs cells slots) {R' : Room} (hf : R'.frames ≤ R.frames) (hl : R'.locals ≤ R.locals) (hc : cells + R'.cells ≤ R.cells) (hs : slots + R'.slots ≤ R.slots) :
    Stand p l e R' ((T.setVm s.vm).setFrames (.invoking m args :: below)) m args below meth c T [] 0 0 := by
  have htop : (T.setVm s.vm).topJava?.isSome := X.here.top
  have hF : ((T.setVm s.vm).setFrames (.invoking m args :: below)).frames = .invoking m args :: below := State.frames_setFrames _ (State.cur_lt_of_top htop)
  obtain ⟨g₀, hg0⟩ := Option.isSome_iff_exists.mp htop
  obtain ⟨r, hr⟩ := State.topJava?_eq_some.mp hg0
  have hl9 : e.platform.stackLimits (T.setVm s.vm).me = e.platform.stackLimits s.me := X.limits
  have hb9 : (T.setVm s.vm).me.stackBytes = s.me.stackBytes := X.bytes
  refine ⟨X.admits, X.cas, X.clock, hF, ?_, X.hears, X.method, X.code, X.here, X.tail, X.warmed, ?_, ?_, ?_⟩
  · have h := X.room
    have hU : ((T.setVm s.vm).setFrames (.invoking m args :: below)).localsInUse = s.localsInUse := by
      rw [State.localsInUse_invoking hF (meth := meth) (c := c) X.method X.code, State.localsInUse_invoking X.frames X.method X.code]
    simp only [State.hasRoom, Bool.and_eq_true, decide_eq_true_eq] at h ⊢
    obtain ⟨⟨⟨⟨h1, h2, h3, h4, h5, h6⟩, h7⟩, h8⟩, h9⟩ := h
    rw [X.frames, List.length_cons] at h2 h3
    have q1 := X.heapSize
    have q2 := X.used
    simp only [hF, hU, List.length_cons, State.stackLimits_setFrames, State.stackBytes_setFrames, hl9, hb9]
    refine ⟨⟨⟨⟨by omega, by omega, by omega, by omega, by omega, h6⟩, ?_⟩, ?_⟩, X.book⟩
    · show T.heap.size + R'.cells ≤ e.platform.maxCells
      omega
    · show T.slotsUsed + R'.slots ≤ e.platform.maxSlots
      omega
  · rw [State.stackLimits_setFrames]; rfl
  · rw [State.stackBytes_setFrames]; rfl
  · refine ⟨?_, Nat.le_refl _, Nat.le_refl _, ?_, ?_, fun a c9 h9 => ⟨c9, h9, rfl, rfl, fun _ _ => rfl⟩⟩
    · obtain ⟨t, ht, -⟩ := State.frames_cons hr
      show T.setVm s.vm = { ((T.setVm s.vm).setFrames (.invoking m args :: below)).setFrames (T.setVm s.vm).frames with heap := T.heap, slotsUsed := T.slotsUsed }
      rw [State.setFrames_setFrames, State.setFrames_self ht]
      rfl
    · show T.slotsUsed = T.slotsUsed + ((T.heap.toList.drop T.heap.size).map (·.slots.size)).sum
      rw [List.drop_eq_nil_of_le (Nat.le_of_eq Array.length_toList)]
      rfl
    · show ((T.heap.toList.drop T.heap.size).map (·.slots.size)).sum ≤ 0
      rw [List.drop_eq_nil_of_le (Nat.le_of_eq Array.length_toList)]
      exact Nat.le_refl _
/-- 'throw new E()': new; dup; invokespecial; athrow -/
theorem vx_throw0 {cc : ByteArray} {pc : Nat} (hexec : p.tables.exec = Jvm.exec) (hb : c.code = cc) (hl : l.stackTraces = false) {own cls : String} {names : List String} {ik ic mc ms : Nat} {A : Nat → Prop}
    (hown : s.vm.findClass own = some m.cls) (hcls : Bundle.fit cls = true) (hnames : ∀ n ∈ names, Bundle.fit n = true)
    (hk : (Cond.classLink own ik cls).before args s = true) (hini : (Cond.initialized cls).before args s = true) (hat : ∀ w ∈ vx_at0 own ic cls names, w.before args s = true)
    (hgood : ∀ w ∈ Cond.classLink own ik cls :: Cond.initialized cls :: vx_at0 own ic cls names, vx_ot w = true)
    (hU : vx_Zq Bundle.tN "UNASSIGNED_STACK" Bundle.steD A s s.heap) (hN : vx_Zq Bundle.tN "SUPPRESSED_SENTINEL" Bundle.listD A s s.heap) (hS : va_S A s.heap H locs) (hsize : ls.size = c.maxLocals)
    (d0 : decode cc pc = .ok (.new ik, 3)) (d3 : decode cc (pc + 3) = .ok (.dup, 1)) (d4 : decode cc (pc + 4) = .ok (.invokespecial ic, 3)) (d7 : decode cc (pc + 7) = .ok (.athrow, 1))
    (hout : ∀ x ∈ c.exceptionTable.toList, covers x (pc + 7) = false)
    (hRframes : names.length + 3 < R.frames) (hRlocals : (rest.map fun v => v.category).sum + (13 * (names.length + 1) + 42) ≤ R.locals) (hRcells : cells + 1 ≤ R.cells) (hRslots : slots + 6 ≤ R.slots) (hlocks : meth.locks = false)
    (hx : ∀ t : State, s.vm.Alike t.vm → H.size ≤ t.heap.size → (∀ q : Nat, q < H.size → t.heap[q]? = H[q]?) → XC cls s t)
    (hf : ∀ z ∈ locs, free z.base) (hc : cells + 1 ≤ mc) (hs : slots + 6 ≤ ms) :
    W p l e R s m args below meth c H locs cells slots (vx_MQ below Qc XC args s mc ms free) (F0 m pc ls rest) := by
  intro T hT X
  have htr : e.platform.stackTraces = false := (show e.platform.stackTraces = l.stackTraces by rw [X.admits.platform]).trans hl
  have Y := vx_rebase X (R' := { frames := R.frames, locals := R.locals, cells := 1, slots := 6 }) (Nat.le_refl _) (Nat.le_refl _) hRcells hRslots
  obtain ⟨s', hA⟩ : ∃ z, z = (T.setVm s.vm).setFrames (.invoking m args :: below) := ⟨_, rfl⟩
  rw [← hA] at Y
  have hvm : s'.vm = s.vm := by rw [hA]; rfl
  have hhp : s'.heap = H := by rw [hA]; exact hT
  have hW0 : s.WarmedH s'.vm := by rw [hvm]; exact State.WarmedH.refl s
  have hat' : ∀ w ∈ vx_at0 own ic cls names, w.before args s' = true := fun w hw => vx_ot_at hW0 hvm.symm (hgood w (List.mem_cons_of_mem _ (List.mem_cons_of_mem _ hw))) (hat w hw)
  have hk' : (Cond.classLink own ik cls).before args s' = true := vx_ot_at hW0 hvm.symm (hgood _ List.mem_cons_self) hk
  have hini' : (Cond.initialized cls).before args s' = true := vx_ot_at hW0 hvm.symm (hgood _ (List.mem_cons_of_mem _ List.mem_cons_self)) hini
  have hU' : vx_Zq Bundle.tN "UNASSIGNED_STACK" Bundle.steD A s' s'.heap := by rw [hhp]; exact vx_Zq.moved hW0.alike (hU.kept hS.2.1)
  have hN' : vx_Zq Bundle.tN "SUPPRESSED_SENTINEL" Bundle.listD A s' s'.heap := by rw [hhp]; exact vx_Zq.moved hW0.alike (hN.kept hS.2.1)
  have h : ∀ w ∈ Bundle.ownAtoms0 own ic cls names, w.before args s' = true := vx_own hat' (vx_isRefq hU'.1) (vx_isRefq hN'.1) hU'.2.word hN'.2.word
  have hown' : s'.vm.findClass own = some m.cls := by rw [hvm]; exact hown
  have hins : (Cond.instantiable cls 6).before args s' = true := h _ (by simp [Bundle.ownAtoms0])
  obtain ⟨vm₁, cX, kX, hfX, hkX, -, -, X₁, st1⟩ := Y.newCold hexec (own := own) (C := cls) (index := ik) (n := 6) hown' hk' hins hini'
    (g := F0 m pc ls rest) rfl (by rw [hb]; exact d0) (Nat.le_refl _) (Nat.le_refl _)
  generalize hT1 : (T.setVm vm₁).pushCell { cls := cX, slots := kX.instanceTypes.map defaultValue, vm := .none } = T1 at X₁ st1
  have hcat : (Value.ref T.heap.size).category = 1 := rfl
  have hcellA : T1.heap[T.heap.size]? = some (freshCell cX kX) := by rw [← hT1]; exact State.heap_pushCell_size _ _
  have d3' : decode c.code (pc + 3) = .ok (.dup, 1) := by rw [hb]; exact d3
  obtain ⟨U, hsteps, hrun, hend, hW, hsame, ce, hce, hO⟩ := X₁.ctorThrow0 hexec htr (own := own) (cls := cls) (names := names) (ic := ic) hown' hcls hnames h (fun x hx => nomatch hx) hfX hkX hcellA (by rw [hhp, hT]; exact Nat.le_refl _)
    (g := { method := m, pc := pc + 4, locals := ls, stack := .ref T.heap.size :: .ref T.heap.size :: rest, locked := none }) rfl hsize rfl rfl (rest := rest) rfl
    (by rw [hb]; exact d4) (by rw [hb]; exact d7) hout hRframes (by simp only [List.map_cons, List.sum_cons, hcat]; omega) hlocks
  obtain ⟨f1, f2⟩ := vx_frame hsame
  rw [hhp] at f1 f2
  have hWs : s.WarmedH U.vm := State.WarmedH.trans hW0 hW
  have hcl : s.vm.findClass cls = some ce.cls := by
    have h9 := hO.cls
    rw [hvm] at h9
    exact h9
  have hall : s.sameButNew ({ U with vm := s.vm } : State) locs mc ms := by
    subst hA
    obtain ⟨e1, e2⟩ := hsame
    rw [State.setFrames_setFrames] at e1
    have h2 : (T.setVm s.vm).sameButNew ({ U with vm := s.vm } : State) [] (0 + 1) (0 + 6) := ⟨e1, e2⟩
    have h3 := X.same.trans h2
    rw [List.append_nil] at h3
    exact h3.mono hc hs
  refine ⟨U, ?_, .threw T.heap.size, hrun, hend, Or.inr ⟨T.heap.size, rfl, cls, ce, locs, hx U hWs.alike f1 (fun q hq => f2 q hq (fun z hz => nomatch hz)), hce, hO.vm, hcl, hWs, hall, hf⟩⟩
  refine st1 _ ?_
  show Steps p.tables e below (T1.setTop { method := m, pc := pc + 3, locals := ls, stack := .ref T.heap.size :: rest, locked := none }) _
  jvm_step X₁.here [X₁.here.top, hexec, d3', Value.category]
  exact hsteps
/-- 'throw new E("text")': new; dup; ldc; invokespecial; athrow -/
theorem vx_throwS {cc : ByteArray} {pc : Nat} (hexec : p.tables.exec = Jvm.exec) (hb : c.code = cc) (hl : l.stackTraces = false) {own cls text : String} {names : List String} {ik is ic mc ms sa : Nat} {A : Nat → Prop}
    (hown : s.vm.findClass own = some m.cls) (hcls : Bundle.fit cls = true) (hnames : ∀ n ∈ names, Bundle.fit n = true)
    (hk : (Cond.classLink own ik cls).before args s = true) (hini : (Cond.initialized cls).before args s = true) (hstr : vk_R own is text sa s) (hat : ∀ w ∈ vx_atS own ic cls names, w.before args s = true)
    (hgood : ∀ w ∈ Cond.classLink own ik cls :: Cond.initialized cls :: vx_atS own ic cls names, vx_ot w = true)
    (hU : vx_Zq Bundle.tN "UNASSIGNED_STACK" Bundle.steD A s s.heap) (hN : vx_Zq Bundle.tN "SUPPRESSED_SENTINEL" Bundle.listD A s s.heap) (hS : va_S A s.heap H locs) (hsize : ls.size = c.maxLocals)
    (d0 : decode cc pc = .ok (.new ik, 3)) (d3 : decode cc (pc + 3) = .ok (.dup, 1)) (d4 : decode cc (pc + 4) = .ok (.ldc is, 2)) (d6 : decode cc (pc + 6) = .ok (.invokespecial ic, 3)) (d9 : decode cc (pc + 9) = .ok (.athrow, 1))
    (hout : ∀ x ∈ c.exceptionTable.toList, covers x (pc + 9) = false)
    (hRframes : names.length + 3 < R.frames) (hRlocals : (rest.map fun v => v.category).sum + (13 * (names.length + 1) + 43) ≤ R.locals) (hRcells : cells + 1 ≤ R.cells) (hRslots : slots + 6 ≤ R.slots) (hlocks : meth.locks = false)
    (hx : ∀ t : State, s.vm.Alike t.vm → H.size ≤ t.heap.size → (∀ q : Nat, q < H.size → t.heap[q]? = H[q]?) → XC cls s t)
    (hf : ∀ z ∈ locs, free z.base) (hc : cells + 1 ≤ mc) (hs : slots + 6 ≤ ms) :
    W p l e R s m args below meth c H locs cells slots (vx_MQ below Qc XC args s mc ms free) (F0 m pc ls rest) := by
  intro T hT X
  have htr : e.platform.stackTraces = false := (show e.platform.stackTraces = l.stackTraces by rw [X.admits.platform]).trans hl
  have Y := vx_rebase X (R' := { frames := R.frames, locals := R.locals, cells := 1, slots := 6 }) (Nat.le_refl _) (Nat.le_refl _) hRcells hRslots
  obtain ⟨s', hA⟩ : ∃ z, z = (T.setVm s.vm).setFrames (.invoking m args :: below) := ⟨_, rfl⟩
  rw [← hA] at Y
  have hvm : s'.vm = s.vm := by rw [hA]; rfl
  have hhp : s'.heap = H := by rw [hA]; exact hT
  have hW0 : s.WarmedH s'.vm := by rw [hvm]; exact State.WarmedH.refl s
  have hat' : ∀ w ∈ vx_atS own ic cls names, w.before args s' = true := fun w hw => vx_ot_at hW0 hvm.symm (hgood w (List.mem_cons_of_mem _ (List.mem_cons_of_mem _ hw))) (hat w hw)
  have hk' : (Cond.classLink own ik cls).before args s' = true := vx_ot_at hW0 hvm.symm (hgood _ List.mem_cons_self) hk
  have hini' : (Cond.initialized cls).before args s' = true := vx_ot_at hW0 hvm.symm (hgood _ (List.mem_cons_of_mem _ List.mem_cons_self)) hini
  have hU' : vx_Zq Bundle.tN "UNASSIGNED_STACK" Bundle.steD A s' s'.heap := by rw [hhp]; exact vx_Zq.moved hW0.alike (hU.kept hS.2.1)
  have hN' : vx_Zq Bundle.tN "SUPPRESSED_SENTINEL" Bundle.listD A s' s'.heap := by rw [hhp]; exact vx_Zq.moved hW0.alike (hN.kept hS.2.1)
  have h : ∀ w ∈ Bundle.ownAtoms own ic cls names, w.before args s' = true := vx_own hat' (vx_isRefq hU'.1) (vx_isRefq hN'.1) hU'.2.word hN'.2.word
  have hown' : s'.vm.findClass own = some m.cls := by rw [hvm]; exact hown
  have hins : (Cond.instantiable cls 6).before args s' = true := h _ (by simp [Bundle.ownAtoms])
  obtain ⟨vm₁, cX, kX, hfX, hkX, -, -, X₁, st1⟩ := Y.newCold hexec (own := own) (C := cls) (index := ik) (n := 6) hown' hk' hins hini'
    (g := F0 m pc ls rest) rfl (by rw [hb]; exact d0) (Nat.le_refl _) (Nat.le_refl _)
  generalize hT1 : (T.setVm vm₁).pushCell { cls := cX, slots := kX.instanceTypes.map defaultValue, vm := .none } = T1 at X₁ st1
  have hcat : (Value.ref T.heap.size).category = 1 := rfl
  have hcellA : T1.heap[T.heap.size]? = some (freshCell cX kX) := by rw [← hT1]; exact State.heap_pushCell_size _ _
  have d3' : decode c.code (pc + 3) = .ok (.dup, 1) := by rw [hb]; exact d3
  have d4' : decode c.code (pc + 4) = .ok (.ldc is, 2) := by rw [hb]; exact d4
  have hstr' : vk_R own is text sa s' := vk_R.warm hW0 hstr
  obtain ⟨U, hsteps, hrun, hend, hW, hsame, ce, hce, hO⟩ := X₁.ctorThrowS hexec htr (own := own) (cls := cls) (names := names) (ic := ic) hown' hcls hnames h (fun x hx => nomatch hx) hfX hkX hcellA (by rw [hhp, hT]; exact Nat.le_refl _) (msg := .ref sa) rfl
    (g := { method := m, pc := pc + 6, locals := ls, stack := .ref sa :: .ref T.heap.size :: .ref T.heap.size :: rest, locked := none }) rfl hsize rfl rfl (rest := rest) rfl
    (by rw [hb]; exact d6) (by rw [hb]; exact d9) hout hRframes (by simp only [List.map_cons, List.sum_cons, hcat]; omega) hlocks
  obtain ⟨f1, f2⟩ := vx_frame hsame
  rw [hhp] at f1 f2
  have hWs : s.WarmedH U.vm := State.WarmedH.trans hW0 hW
  have hcl : s.vm.findClass cls = some ce.cls := by
    have h9 := hO.cls
    rw [hvm] at h9
    exact h9
  have hall : s.sameButNew ({ U with vm := s.vm } : State) locs mc ms := by
    subst hA
    obtain ⟨e1, e2⟩ := hsame
    rw [State.setFrames_setFrames] at e1
    have h2 : (T.setVm s.vm).sameButNew ({ U with vm := s.vm } : State) [] (0 + 1) (0 + 6) := ⟨e1, e2⟩
    have h3 := X.same.trans h2
    rw [List.append_nil] at h3
    exact h3.mono hc hs
  refine ⟨U, ?_, .threw T.heap.size, hrun, hend, Or.inr ⟨T.heap.size, rfl, cls, ce, locs, hx U hWs.alike f1 (fun q hq => f2 q hq (fun z hz => nomatch hz)), hce, hO.vm, hcl, hWs, hall, hf⟩⟩
  refine st1 _ ?_
  show Steps p.tables e below (T1.setTop { method := m, pc := pc + 3, locals := ls, stack := .ref T.heap.size :: rest, locked := none }) _
  jvm_step X₁.here [X₁.here.top, hexec, d3', Value.category]
  exact X₁.ldcString hexec (own := own) (text := text) (index := is) (a := sa) hown' hstr'.1 hstr'.2
    (g := { method := m, pc := pc + 4, locals := ls, stack := .ref T.heap.size :: .ref T.heap.size :: rest, locked := none }) rfl d4' _ hsteps
/-- 'throw new E("text")', the text by a wide index -/
theorem vx_throwSW {cc : ByteArray} {pc : Nat} (hexec : p.tables.exec = Jvm.exec) (hb : c.code = cc) (hl : l.stackTraces = false) {own cls text : String} {names : List String} {ik is ic mc ms sa : Nat} {A : Nat → Prop}
    (hown : s.vm.findClass own = some m.cls) (hcls : Bundle.fit cls = true) (hnames : ∀ n ∈ names, Bundle.fit n = true)
    (hk : (Cond.classLink own ik cls).before args s = true) (hini : (Cond.initialized cls).before args s = true) (hstr : vk_R own is text sa s) (hat : ∀ w ∈ vx_atS own ic cls names, w.before args s = true)
    (hgood : ∀ w ∈ Cond.classLink own ik cls :: Cond.initialized cls :: vx_atS own ic cls names, vx_ot w = true)
    (hU : vx_Zq Bundle.tN "UNASSIGNED_STACK" Bundle.steD A s s.heap) (hN : vx_Zq Bundle.tN "SUPPRESSED_SENTINEL" Bundle.listD A s s.heap) (hS : va_S A s.heap H locs) (hsize : ls.size = c.maxLocals)
    (d0 : decode cc pc = .ok (.new ik, 3)) (d3 : decode cc (pc + 3) = .ok (.dup, 1)) (d4 : decode cc (pc + 4) = .ok (.ldc_w is, 3)) (d7 : decode cc (pc + 7) = .ok (.invokespecial ic, 3)) (d10 : decode cc (pc + 10) = .ok (.athrow, 1))
    (hout : ∀ x ∈ c.exceptionTable.toList, covers x (pc + 10) = false)
    (hRframes : names.length + 3 < R.frames) (hRlocals : (rest.map fun v => v.category).sum + (13 * (names.length + 1) + 43) ≤ R.locals) (hRcells : cells + 1 ≤ R.cells) (hRslots : slots + 6 ≤ R.slots) (hlocks : meth.locks = false)
    (hx : ∀ t : State, s.vm.Alike t.vm → H.size ≤ t.heap.size → (∀ q : Nat, q < H.size → t.heap[q]? = H[q]?) → XC cls s t)
    (hf : ∀ z ∈ locs, free z.base) (hc : cells + 1 ≤ mc) (hs : slots + 6 ≤ ms) :
    W p l e R s m args below meth c H locs cells slots (vx_MQ below Qc XC args s mc ms free) (F0 m pc ls rest) := by
  intro T hT X
  have htr : e.platform.stackTraces = false := (show e.platform.stackTraces = l.stackTraces by rw [X.admits.platform]).trans hl
  have Y := vx_rebase X (R' := { frames := R.frames, locals := R.locals, cells := 1, slots := 6 }) (Nat.le_refl _) (Nat.le_refl _) hRcells hRslots
  obtain ⟨s', hA⟩ : ∃ z, z = (T.setVm s.vm).setFrames (.invoking m args :: below) := ⟨_, rfl⟩
  rw [← hA] at Y
  have hvm : s'.vm = s.vm := by rw [hA]; rfl
  have hhp : s'.heap = H := by rw [hA]; exact hT
  have hW0 : s.WarmedH s'.vm := by rw [hvm]; exact State.WarmedH.refl s
  have hat' : ∀ w ∈ vx_atS own ic cls names, w.before args s' = true := fun w hw => vx_ot_at hW0 hvm.symm (hgood w (List.mem_cons_of_mem _ (List.mem_cons_of_mem _ hw))) (hat w hw)
  have hk' : (Cond.classLink own ik cls).before args s' = true := vx_ot_at hW0 hvm.symm (hgood _ List.mem_cons_self) hk
  have hini' : (Cond.initialized cls).before args s' = true := vx_ot_at hW0 hvm.symm (hgood _ (List.mem_cons_of_mem _ List.mem_cons_self)) hini
  have hU' : vx_Zq Bundle.tN "UNASSIGNED_STACK" Bundle.steD A s' s'.heap := by rw [hhp]; exact vx_Zq.moved hW0.alike (hU.kept hS.2.1)
  have hN' : vx_Zq Bundle.tN "SUPPRESSED_SENTINEL" Bundle.listD A s' s'.heap := by rw [hhp]; exact vx_Zq.moved hW0.alike (hN.kept hS.2.1)
  have h : ∀ w ∈ Bundle.ownAtoms own ic cls names, w.before args s' = true := vx_own hat' (vx_isRefq hU'.1) (vx_isRefq hN'.1) hU'.2.word hN'.2.word
  have hown' : s'.vm.findClass own = some m.cls := by rw [hvm]; exact hown
  have hins : (Cond.instantiable cls 6).before args s' = true := h _ (by simp [Bundle.ownAtoms])
  obtain ⟨vm₁, cX, kX, hfX, hkX, -, -, X₁, st1⟩ := Y.newCold hexec (own := own) (C := cls) (index := ik) (n := 6) hown' hk' hins hini'
    (g := F0 m pc ls rest) rfl (by rw [hb]; exact d0) (Nat.le_refl _) (Nat.le_refl _)
  generalize hT1 : (T.setVm vm₁).pushCell { cls := cX, slots := kX.instanceTypes.map defaultValue, vm := .none } = T1 at X₁ st1
  have hcat : (Value.ref T.heap.size).category = 1 := rfl
  have hcellA : T1.heap[T.heap.size]? = some (freshCell cX kX) := by rw [← hT1]; exact State.heap_pushCell_size _ _
  have d3' : decode c.code (pc + 3) = .ok (.dup, 1) := by rw [hb]; exact d3
  have d4' : decode c.code (pc + 4) = .ok (.ldc_w is, 3) := by rw [hb]; exact d4
  have hstr' : vk_R own is text sa s' := vk_R.warm hW0 hstr
  obtain ⟨U, hsteps, hrun, hend, hW, hsame, ce, hce, hO⟩ := X₁.ctorThrowS hexec htr (own := own) (cls := cls) (names := names) (ic := ic) hown' hcls hnames h (fun x hx => nomatch hx) hfX hkX hcellA (by rw [hhp, hT]; exact Nat.le_refl _) (msg := .ref sa) rfl
    (g := { method := m, pc := pc + 7, locals := ls, stack := .ref sa :: .ref T.heap.size :: .ref T.heap.size :: rest, locked := none }) rfl hsize rfl rfl (rest := rest) rfl
    (by rw [hb]; exact d7) (by rw [hb]; exact d10) hout hRframes (by simp only [List.map_cons, List.sum_cons, hcat]; omega) hlocks
  obtain ⟨f1, f2⟩ := vx_frame hsame
  rw [hhp] at f1 f2
  have hWs : s.WarmedH U.vm := State.WarmedH.trans hW0 hW
  have hcl : s.vm.findClass cls = some ce.cls := by
    have h9 := hO.cls
    rw [hvm] at h9
    exact h9
  have hall : s.sameButNew ({ U with vm := s.vm } : State) locs mc ms := by
    subst hA
    obtain ⟨e1, e2⟩ := hsame
    rw [State.setFrames_setFrames] at e1
    have h2 : (T.setVm s.vm).sameButNew ({ U with vm := s.vm } : State) [] (0 + 1) (0 + 6) := ⟨e1, e2⟩
    have h3 := X.same.trans h2
    rw [List.append_nil] at h3
    exact h3.mono hc hs
  refine ⟨U, ?_, .threw T.heap.size, hrun, hend, Or.inr ⟨T.heap.size, rfl, cls, ce, locs, hx U hWs.alike f1 (fun q hq => f2 q hq (fun z hz => nomatch hz)), hce, hO.vm, hcl, hWs, hall, hf⟩⟩
  refine st1 _ ?_
  show Steps p.tables e below (T1.setTop { method := m, pc := pc + 3, locals := ls, stack := .ref T.heap.size :: rest, locked := none }) _
  jvm_step X₁.here [X₁.here.top, hexec, d3', Value.category]
  exact X₁.ldcStringW hexec (own := own) (text := text) (index := is) (a := sa) hown' hstr'.1 hstr'.2
    (g := { method := m, pc := pc + 4, locals := ls, stack := .ref T.heap.size :: .ref T.heap.size :: rest, locked := none }) rfl d4' _ hsteps
end Ends
section Bodies
variable {l : Launch}
theorem vx_ofW {y : MethodName} {ws ws' : List Cond} {rm : Room} {Pc : Array Value → State → Prop} {Qc : Array Value → State → Outcome → State → Prop} {XC : String → State → State → Prop} {mc ms : Nat} {free : Addr → Prop} {cc : ByteArray} {maxL : Nat} {ret : Option FieldType}
    (hy : plainName y.cls = true) (hw : ws = Cond.code y cc maxL ret :: ws')
    (body : ∀ p e s m args below meth c s₁, BodyLoose p l y (headSpec ws rm) cc maxL ret e s m args below meth c s₁ → c.maxLocals = maxL → (∀ x ∈ c.exceptionTable.toList, False) → Pc args s →
      W p l e (headSpec ws rm).room s m args below meth c s.heap [] 0 0 (vx_MQ below Qc XC args s mc ms free) (entryFrame m args maxL)) : vx_Met l y ws rm Pc Qc XC mc ms free := by
  refine MetFree.of_bodyS (code := cc) (maxLocals := maxL) (ret := ret) hy ?_ ?_
  · intro args s m h hn
    obtain ⟨meth, c, h1, h2, h3, h4, h5, h6, -, -⟩ := Cond.code_spec hn (atoms_spec (ws := ws) h _ (by rw [hw]; exact List.mem_cons_self))
    exact ⟨meth, c, h1, h2, h3, h4, h5, h6⟩
  · intro p e s m args below meth c s₁ B hml hP _
    have hh0 : s₁.heap = s.heap := by rw [B.state]; rfl
    have ht : ∀ x ∈ c.exceptionTable.toList, False := by
      obtain ⟨meth9, c9, h1, h2, -, -, -, -, h7, -⟩ := Cond.code_spec B.named (atoms_spec (ws := ws) B.pre _ (by rw [hw]; exact List.mem_cons_self))
      cases Option.some.inj (h1.symm.trans B.method)
      cases Option.some.inj (h2.symm.trans (Stand.of_body B).code)
      intro x hx
      rw [Array.isEmpty_iff.mp h7] at hx
      cases hx
    obtain ⟨t, a1, o, b1, b2, b3⟩ := body p e s m args below meth c s₁ B hml ht hP s₁ hh0 (Stand.of_body B)
    exact ⟨t, o, a1, b1, b2, b3⟩
/-- the table of a body with handlers -/
theorem vx_table {p : Program} {x y : MethodName} {S : Spec} {cc bytes : ByteArray} {maxL maxL' : Nat} {ret ret' : Option FieldType} {e : Env} {s s₁ : State} {m : MethodId} {args : Array Value} {below : List Frame} {meth : Method} {c : Code} {hh : List (Nat × Nat × Nat × Nat)}
    (B : BodyLoose p l y S cc maxL ret e s m args below meth c s₁) (h : (Cond.codeWith y bytes maxL' ret' hh).before args s = true) : c.exceptionTable.toList = tableOf hh := by
  obtain ⟨m9, meth9, c9, hn9, h1, h2, -, -, h6, -⟩ := Cond.codeWith_spec h
  cases Option.some.inj (hn9.symm.trans B.named)
  cases Option.some.inj (h1.symm.trans B.method)
  cases Option.some.inj (h2.symm.trans (Stand.of_body B).code)
  rw [← h6, table_eq]
end Bodies
end VXA
/-! ===== END ===== -/
/-! ===== BEGIN a static call of a method with an exception table ===== -/
section VXS
variable {p : Program} {l : Launch} {e : Env} {R : Room} {s : State} {m : MethodId} {args : Array Value} {below : List Frame} {meth : Method} {c : Code} {T : State} {H : Heap} {locs : List Loc} {cells slots : Nat}
abbrev vx_CSW (R : Room) (s : State) (args : Array Value) (own : String) (index : Nat) (y : MethodName) (bytes : ByteArray) (maxL : Nat) (ret : Option FieldType) (hh : List (Nat × Nat × Nat × Nat)) (ws : List Cond) (rm : Room) (mc ms n : Nat) : Prop :=
  (rm.cells = mc ∧ rm.slots = ms ∧ rm.frames + 1 ≤ R.frames ∧ 8 + (maxL + 11) + rm.locals ≤ R.locals ∧ (∀ w ∈ ws, ∀ (a' : Array Value) (U : State), s.WarmedH U.vm → w.before a' U = true) ∧ Cond.codeWith y bytes maxL ret hh ∈ ws) ∧
  (Cond.codeWith y bytes maxL ret hh).before args s = true ∧ (Cond.initialized y.cls).before args s = true ∧ (y.cls ≠ "java/lang/invoke/MethodHandle" ∧ y.cls ≠ "java/lang/invoke/VarHandle") ∧
  (∀ sig, parseMethodDescriptor y.desc = some sig → n = sig.parameters.length) ∧ (Cond.methodLink own index y).before args s = true ∧ (Cond.static y).before args s = true
theorem vx_cwSW {own : String} {index maxL mc ms : Nat} {y : MethodName} {bytes : ByteArray} {ret : Option FieldType} {hh : List (Nat × Nat × Nat × Nat)} {Ts ws ws' : List Cond} {rm : Room} (n : Nat) (ht : ∀ w ∈ Ts, w.before args s = true) (hT : GoodIn Ts (va_wsS own index y ws)) (hw : ws = Cond.codeWith y bytes maxL ret hh :: ws') (hrc : rm.cells = mc) (hrs : rm.slots = ms)
    (hd : y.cls ≠ "java/lang/invoke/MethodHandle" ∧ y.cls ≠ "java/lang/invoke/VarHandle" ∧ (parseMethodDescriptor y.desc).map (fun d => d.parameters.length) = some n) (hR : rm.frames + 1 ≤ R.frames ∧ 8 + (maxL + 11) + rm.locals ≤ R.locals) :
    vx_CSW R s args own index y bytes maxL ret hh ws rm mc ms n := by
  have ok : ∀ w ∈ va_wsS own index y ws, w.before args s = true := fun w h => ht w (hT w h).1
  have hG : GoodIn Ts ws := fun w h => hT w (by unfold va_wsS; exact List.mem_append_right _ h)
  have hc : Cond.codeWith y bytes maxL ret hh ∈ ws := by rw [hw]; exact List.mem_cons_self
  refine ⟨⟨hrc, hrs, hR.1, hR.2, pay_in ht hG, hc⟩, ht _ (hG _ hc).1, ok _ (by simp [va_wsS]), ⟨hd.1, hd.2.1⟩, fun sig h => ?_, ok _ (by simp [va_wsS]), ok _ (by simp [va_wsS])⟩
  have h2 := hd.2.2
  rw [h] at h2
  exact (Option.some.inj h2).symm
theorem vx_callSW (X : Stand p l e R s m args below meth c T locs cells slots) (hexec : p.tables.exec = Jvm.exec) {own : String} {index : Nat} {y : MethodName} {bytes : ByteArray} {maxL : Nat} {ret : Option FieldType} {hh : List (Nat × Nat × Nat × Nat)}
    (hown : s.vm.findClass own = some m.cls) (hlink : (Cond.methodLink own index y).before args s = true) (hstat : (Cond.static y).before args s = true) (hinit : (Cond.initialized y.cls).before args s = true)
    (hcode : (Cond.codeWith y bytes maxL ret hh).before args s = true) (hy : y.cls ≠ "java/lang/invoke/MethodHandle" ∧ y.cls ≠ "java/lang/invoke/VarHandle")
    {W9 : Nat} {Pre : Pt → Array Value → Prop} {Post : Pt → Array Value → Option Value → Pt → Prop} (hK : Back l R p e below s args y 3 W9 Pre Post)
    {g : JFrame} (hg : g.method = m) (hsize : g.locals.size = c.maxLocals) {argsL rest : List Value} (hlen : ∀ sig, parseMethodDescriptor y.desc = some sig → argsL.length = sig.parameters.length)
    (hstack : g.stack = argsL.reverse ++ rest) (hW : 2 * g.monitorRoom + (rest.map fun v => v.category).sum ≤ W9) (hdg : decode c.code g.pc = .ok (.invokestatic index, 3))
    (hpre : ∀ vm₁, s.WarmedH vm₁ → Pre ⟨T.setVm vm₁, locs, cells, slots⟩ argsL.toArray) :
    ∃ (v : Option Value) (vm₁ : Vm) (B : Pt), s.WarmedH vm₁ ∧ Stand p l e R s m args below meth c B.U B.locs B.cells B.slots ∧ Post ⟨T.setVm vm₁, locs, cells, slots⟩ argsL.toArray v B ∧
      ∀ target, Steps p.tables e below (B.U.setTop { g with pc := g.pc + 3, stack := v.toList ++ rest }) target → Steps p.tables e below (T.setTop g) target := by
  obtain ⟨mk, methM, cM, hnamed, hmethM, -, -, -, -, -, -, hsigM⟩ := Cond.codeWith_spec hcode
  have hstatic : methM.isStatic = true := Cond.static_spec hnamed hmethM hstat
  obtain ⟨kP, hkP, -⟩ := className_of_methodNamed hnamed
  have hinitP : kP.init = .initialized := Cond.initialized_spec (findClass_of_methodNamed hnamed) hkP hinit
  obtain ⟨vm₁, X₁, hstep₁⟩ := X.invokestatic hexec hown hlink hnamed hmethM hstatic hkP hinitP hy (g := g) hg (argsL := argsL) (rest := rest) (hlen _ hsigM) hstack hdg
  obtain ⟨v, B, X', hpost, hsteps⟩ := hK m meth c ⟨T.setVm vm₁, locs, cells, slots⟩ { g with stack := rest } (.invokestatic index) mk argsL.toArray X₁ hg hsize hdg hW (X₁.named hnamed) (hpre vm₁ X₁.warmed)
  exact ⟨v, vm₁, B, X₁.warmed, X', hpost, fun target h => hstep₁ _ fun acts => by rw [doInvoke_state]; exact hsteps.trans h⟩
theorem vx_runSW {y : MethodName} {bytes cc : ByteArray} {maxL nL mc ms n index : Nat} {ret : Option FieldType} {hh : List (Nat × Nat × Nat × Nat)} {ws : List Cond} {rm : Room} {Pc : Array Value → State → Prop} {Qc : Array Value → State → Outcome → State → Prop} {free : Addr → Prop} {Ts : List Cond} {own : String} {As rest : List Value} {g : JFrame}
    (S : CallFix p m c cc nL s args Ts own) (hM : Met l y ws rm Pc Qc mc ms free) (cw : vx_CSW R s args own index y bytes maxL ret hh ws rm mc ms n) (hp : PreS s H Pc As)
    (hg : g.method = m) (hn : As.length = n) (hsize : g.locals.size = nL) (hstack : g.stack = As.reverse ++ rest) (hW : 2 * g.monitorRoom + (rest.map fun v => v.category).sum ≤ 8) (hdg : decode cc g.pc = .ok (.invokestatic index, 3)) (hf : cells + mc ≤ R.cells ∧ slots + ms ≤ R.slots) :
    va_Run p l e R s m args below meth c H locs cells slots mc ms g rest (Qc As.toArray) (free) := by
  obtain ⟨⟨hrc, hrs, hfr, hlo, hws, hcw⟩, hcode, hini, hy, hlen, hl, hstt⟩ := cw
  have hK : Back l R p e below s args y 3 8 (PreOf R mc ms Pc) (PostOf Qc mc ms free) := va_backW (hh := hh) (bytes := bytes) (maxL := maxL) (ret := ret) hM hp.1 hrc hrs hfr hlo hws hcw (fun a' U hW => word_at hW (Or.inl (by first | rfl | simp [Cond.onTables, Cond.keeps, Cond.steady])) hini)
  obtain ⟨hx, hb, hml, ho, -⟩ := S
  intro T hT X
  obtain ⟨v, vm₁, ⟨U', l2, c2, s2⟩, hW₁, X', ⟨g', mk, t, L, e1, e2, hq, h1, hL, h2, h3⟩, st⟩ := vx_callSW X hx (hh := hh) (bytes := bytes) (maxL := maxL) (ret := ret) ho hl hstt hini hcode hy hK hg (hsize.trans hml.symm) (argsL := As) (rest := rest) (fun sig h => hn.trans (hlen sig h)) hstack hW (by rw [hb]; exact hdg)
    (fun vm₁ hW₁ => ⟨hf.1, hf.2, hp.2 (T.setVm vm₁) hT hW₁⟩)
  dsimp only [Pt.U, Pt.locs, Pt.cells, Pt.slots] at X' e1 e2 h1 h2 h3 st
  subst h1; subst h2; subst h3
  exact ⟨v, (T.setVm vm₁).calling g' mk As.toArray, t, U', L, hT, X', hL, e1, e2, hq, st⟩
/-- not caught here, past rows that name other classes: it goes on to the caller -/
theorem vx_outP {p : Program} {l : Launch} {e : Env} {R : Room} {s : State} {m : MethodId} {args : Array Value} {below : List Frame} {meth : Method} {c : Code} {H : Heap} {locs : List Loc} {cells slots : Nat} {free : Addr → Prop} {ls : Array Slot} {rest : List Value} {Qc : Array Value → State → Outcome → State → Prop} {XC : String → State → State → Prop}
    {pc : Nat} {own E : String} {ce : Cell} {q : Addr} {mc ms : Nat} (hown : s.vm.findClass own = some m.cls) (hlocks : meth.locks = false)
    (hpass : ∀ z ∈ c.exceptionTable.toList, covers z pc = false ∨ (z.catchType ≠ 0 ∧ ∃ nm : String, (Cond.classLink own z.catchType nm).before args s = true ∧ va_Nc E nm s)) (hcell : H[q]? = some ce) (hv : ce.vm = .none) (hcl : s.vm.findClass E = some ce.cls)
    (hx : ∀ t : State, t.heap = H → s.vm.Alike t.vm → XC E s t) (hf : ∀ z ∈ locs, free z.base) (hc : cells ≤ mc) (hs : slots ≤ ms) :
    vx_W p l e R s m args below meth c H locs cells slots (vx_MQ below Qc XC args s mc ms free) (F0 m pc ls rest) q := by
  intro T hT X
  have hpl : e.platform.magicAccessors = ({} : Platform).magicAccessors := by rw [X.admits.platform]
  obtain ⟨vm', hW', X', st⟩ := X.outThrough hlocks q (g := F0 m pc ls rest) rfl rfl rfl (cell := ce) (by rw [hT]; exact hcell) (by rw [hv]; rfl)
    (by obtain ⟨k9, h9, -⟩ := Vm.findClass_spec hcl; exact ⟨k9, h9⟩) (fun z hz => by
      rcases hpass z hz with h | ⟨hz0, nm, hl1, hn1⟩
      · exact Or.inl h
      · obtain ⟨c6, hc6, hcl6⟩ := Cond.classLink_spec hown hl1 e.platform hpl
        obtain ⟨a8, b8, h1, h2, h3⟩ := hn1
        cases Option.some.inj (h1.symm.trans hcl)
        cases Option.some.inj (h2.symm.trans hc6)
        exact Or.inr ⟨hz0, _, hcl6, h3⟩)
  obtain ⟨g₀, hfr⟩ := X'.frames_eq
  have hcell9 : ((T.setVm vm').setFrames (.throwing q :: below)).heap[q]? = some ce := by
    show T.heap[q]? = some ce
    rw [hT]; exact hcell
  have hend : Ended ((T.setVm vm').setFrames (.throwing q :: below)) below (.threw q) := State.frames_setFrames _ (State.cur_lt_of_frames hfr)
  refine ⟨(T.setVm vm').setFrames (.throwing q :: below), ?_, .threw q, X'.here.running, hend, Or.inr ⟨q, rfl, E, ce, locs, hx _ hT (X'.ends _).1.alike, hcell9, hv, hcl, (X'.ends _).1, (X'.ends _).2.mono hc hs, hf⟩⟩
  rw [X.pushThrowing_eq]
  exact st
/-- a thing of a world lies in the heap -/
theorem vx_lt {D : va_G} {cl : List vw_C} {ws : va_W} {H1 : Heap} (h : va_P D cl ws H1) {k : Nat} {q : Nat × va_E} (hk : ws[k]? = some q) : q.1 < H1.size := (h k q hk).lt
end VXS
/-! ===== END ===== -/
/-! ===== BEGIN methods with a table of their own: called by a name, returning or throwing ===== -/
section VXH
/-! vx_backW, vx_callVX, vx_callSX, vx_callVW, vx_runVW, vx_runVX, vx_runSX, vx_ofWH follow the same proofs as their sisters above (Free/Laws.lean, Shelf42/LK1.lean); vx_outP calls Shelf42/NT130.lean (outThrough). -/
section
variable {l : Launch} {R : Room} {p : Program} {e : Env} {below : List Frame} {s : State} {sargs : Array Value} {y : MethodName} {len W9 : Nat}
theorem vx_backW {ws : List Cond} {rm : Room} {Pc : Array Value → State → Prop} {Qc : Array Value → State → Outcome → State → Prop} {XC : String → State → State → Prop} {mc ms : Nat} {free : Addr → Prop} {bytes : ByteArray} {maxL : Nat} {ret : Option FieldType} {hh : List (Nat × Nat × Nat × Nat)}
    (hM : vx_Met l y ws rm Pc Qc XC mc ms free) (hblind : FrameBlind Pc) (hrc : rm.cells = mc) (hrs : rm.slots = ms)
    (hframes : rm.frames + 1 ≤ R.frames) (hlocals : W9 + (maxL + 11) + rm.locals ≤ R.locals)
    (hws : ∀ w ∈ ws, ∀ a' U, s.WarmedH U.vm → w.before a' U = true) (hcode : Cond.codeWith y bytes maxL ret hh ∈ ws) (hinit : ∀ a' U, s.WarmedH U.vm → (Cond.initialized y.cls).before a' U = true) :
    vx_Back l R p e below s sargs y len W9 (PreOf R mc ms Pc) (PostOf Qc mc ms free) (vx_Post XC mc ms free) := by
  intro m meth c A g ig mk a X hg hsize hdg hW hn hp
  have h1 : (headSpec ws rm).pre.before a A.U = true := atoms_intro fun w hw => hws w hw _ _ X.warmed
  have h2 : (Cond.codeWith y bytes maxL ret hh).before a A.U = true := hws _ hcode _ _ X.warmed
  have h3 : (Cond.initialized y.cls).before a A.U = true := hinit _ _ X.warmed
  have h4 : A.cells + (headSpec ws rm).room.cells ≤ R.cells := by rw [show (headSpec ws rm).room.cells = mc from hrc]; exact hp.1
  have h5 : A.slots + (headSpec ws rm).room.slots ≤ R.slots := by rw [show (headSpec ws rm).room.slots = ms from hrs]; exact hp.2.1
  have hPc : Pc a (A.U.calling g mk a) := hblind _ _ _ _ hp.2.2
  obtain ⟨U, Ls, c0, s0⟩ := A
  dsimp only [Pt.U, Pt.locs, Pt.cells, Pt.slots] at h1 h2 h3 h4 h5 X hn hPc ⊢
  obtain ⟨m9, methY, cY, hn9, hmY, hcY, -, hlY, -⟩ := Cond.codeWith_spec h2
  cases Option.some.inj (hn9.symm.trans hn)
  obtain ⟨kY, hkY, -⟩ := className_of_methodNamed hn
  have hinitY : kY.init = .initialized := Cond.initialized_spec (findClass_of_methodNamed hn) hkY h3
  have h : At U g.method c below := by rw [hg]; exact X.here
  have hlocals9 : W9 + (maxL + 11) + (headSpec ws rm).room.locals ≤ R.locals := hlocals
  have happ : (headSpec ws rm).appliesLoose y e.platform (U.calling g mk a) = true :=
    Spec.appliesLoose_calling (g := g) h hdg hn hkY hinitY
      (X.room_calling (g := g) (R' := (headSpec ws rm).room) hsize hmY hcY hframes (by rw [hlY]; omega) h4 h5) h1
  obtain ⟨mid, hmid⟩ := h.above
  have hfr : (U.setTop g).frames = (.java g :: mid) ++ below := by rw [State.frames_setTop' g h.top, hmid]; rfl
  obtain ⟨o, s₂, hsteps, -, hend, hq⟩ := Steps.callFree hM p X.admits X.cas X.clock (acts := []) hfr happ hPc trivial
  have hq' : vx_Q Qc XC mc ms free a (U.calling g mk a) o s₂ := hq
  rw [State.frames_setTop' g h.top] at hend
  obtain ⟨g₀, hg0⟩ := Option.isSome_iff_exists.mp h.top
  obtain ⟨r, hr⟩ := State.topJava?_eq_some.mp hg0
  have hr' : (({ U with heap := s₂.heap, slotsUsed := s₂.slotsUsed } : State).setVm s₂.vm).frames = .java g₀ :: r := hr
  rcases hq' with ⟨hqc, L, hfe, hL⟩ | ⟨q, rfl, E, ce, L, hx, hce, hcv, hcl, hW₂, hsm, hL⟩
  · obtain ⟨⟨v, rfl⟩, hW₂, e2, q2, q3, q4, q5, q6⟩ := id hfe
    have e3 : s₂ = ({ (U.calling g mk a).setFrames s₂.frames with heap := s₂.heap, slotsUsed := s₂.slotsUsed } : State).setVm s₂.vm := by
      have : s₂ = ({ s₂ with vm := (U.calling g mk a).vm } : State).setVm s₂.vm := rfl
      rw [e2] at this
      exact this
    obtain ⟨c₂, i₂, len₂, hc₂, hd₂, hf₂⟩ := hend
    have hW' : U.WarmedH s₂.vm := hW₂
    have hcc : c₂ = c := by
      have h1 : s₂.code? g.method = U.code? g.method := by
        rw [State.code?_eq, State.code?_eq, hW'.alike.method?]
      exact Option.some.inj (hc₂.symm.trans (h1.trans h.code))
    subst hcc
    have hlen : len₂ = len := by rw [hdg] at hd₂; cases hd₂; rfl
    subst hlen
    have hs₂ : s₂ = (({ U with heap := s₂.heap, slotsUsed := s₂.slotsUsed } : State).setVm s₂.vm).setTop { g with pc := g.pc + len₂, stack := v.toList ++ g.stack } := by
      refine e3.trans ?_
      rw [hf₂, State.calling_eq h.top, State.setFrames_setFrames, State.setTop_of_frames _ hr', hr]
      rfl
    have hsame : U.sameButNew ({ U with heap := s₂.heap, slotsUsed := s₂.slotsUsed } : State) L mc ms := by
      refine ⟨?_, q2, q3, q4, q5, q6⟩
      obtain ⟨t, ht, -⟩ := State.frames_cons hr
      show ({ U with heap := s₂.heap, slotsUsed := s₂.slotsUsed } : State) = { U.setFrames U.frames with heap := s₂.heap, slotsUsed := s₂.slotsUsed }
      rw [State.setFrames_self ht]
    subst hg
    refine Or.inl ⟨v, ⟨(({ U with heap := s₂.heap, slotsUsed := s₂.slotsUsed } : State).setVm s₂.vm), Ls ++ L, c0 + mc, s0 + ms⟩,
      ⟨X.admits, X.cas, X.clock, X.frames, X.room, X.hears, X.method, X.code, (X.here.setHeapUsed s₂.heap s₂.slotsUsed).setVm hW'.alike, X.tail, State.WarmedH.trans X.warmed hW', X.limits, X.bytes, X.same.trans (hsame.setVm s.vm)⟩,
      ⟨g, mk, s₂, L, rfl, rfl, hqc, rfl, hL, rfl, rfl⟩, ?_⟩
    show Steps p.tables e below _ ((({ U with heap := s₂.heap, slotsUsed := s₂.slotsUsed } : State).setVm s₂.vm).setTop { g with pc := g.pc + len₂, stack := v.toList ++ g.stack })
    rw [← hs₂]
    exact hsteps
  · obtain ⟨e2, q2, q3, q4, q5, q6⟩ := id hsm
    have e3 : s₂ = ({ (U.calling g mk a).setFrames s₂.frames with heap := s₂.heap, slotsUsed := s₂.slotsUsed } : State).setVm s₂.vm := by
      have : s₂ = ({ s₂ with vm := (U.calling g mk a).vm } : State).setVm s₂.vm := rfl
      rw [e2] at this
      exact this
    have hf₂ : s₂.frames = .throwing q :: .java g :: U.frames.tail := hend
    have hW' : U.WarmedH s₂.vm := hW₂
    have hs₂ : s₂ = ((({ U with heap := s₂.heap, slotsUsed := s₂.slotsUsed } : State).setVm s₂.vm).setTop g).pushFrame (.throwing q) := by
      refine e3.trans ?_
      rw [hf₂, State.calling_eq h.top, State.setFrames_setFrames, State.pushFrame, State.frames_setTop _ hr', State.setTop_of_frames _ hr', State.setFrames_setFrames, hr]
      rfl
    have hsame : U.sameButNew ({ U with heap := s₂.heap, slotsUsed := s₂.slotsUsed } : State) L mc ms := by
      refine ⟨?_, q2, q3, q4, q5, q6⟩
      obtain ⟨t, ht, -⟩ := State.frames_cons hr
      show ({ U with heap := s₂.heap, slotsUsed := s₂.slotsUsed } : State) = { U.setFrames U.frames with heap := s₂.heap, slotsUsed := s₂.slotsUsed }
      rw [State.setFrames_self ht]
    subst hg
    refine Or.inr ⟨q, ⟨(({ U with heap := s₂.heap, slotsUsed := s₂.slotsUsed } : State).setVm s₂.vm), Ls ++ L, c0 + mc, s0 + ms⟩,
      ⟨X.admits, X.cas, X.clock, X.frames, X.room, X.hears, X.method, X.code, (X.here.setHeapUsed s₂.heap s₂.slotsUsed).setVm hW'.alike, X.tail, State.WarmedH.trans X.warmed hW', X.limits, X.bytes, X.same.trans (hsame.setVm s.vm)⟩,
      ⟨g, mk, s₂, L, E, ce, rfl, rfl, hx, hce, hcv, hcl, rfl, hL, rfl, rfl⟩, ?_⟩
    show Steps p.tables e below _ (((({ U with heap := s₂.heap, slotsUsed := s₂.slotsUsed } : State).setVm s₂.vm).setTop g).pushFrame (.throwing q))
    rw [← hs₂]
    exact hsteps
end
variable {p : Program} {l : Launch} {e : Env} {R : Room} {s : State} {m : MethodId} {args : Array Value} {below : List Frame} {meth : Method} {c : Code} {T : State} {H : Heap} {locs : List Loc} {cells slots : Nat}
theorem vx_callVX (X : Stand p l e R s m args below meth c T locs cells slots) (hexec : p.tables.exec = Jvm.exec) {own C : String} {index : Nat} {y : MethodName} {bytes : ByteArray} {maxL : Nat} {ret : Option FieldType} {hh : List (Nat × Nat × Nat × Nat)}
    (hown : s.vm.findClass own = some m.cls) (hlink : (Cond.methodLink own index y).before args s = true) (hinst : (Cond.instanceMethod y).before args s = true) (hsel : (Cond.selects C y y).before args s = true)
    (hcode : (Cond.codeWith y bytes maxL ret hh).before args s = true) (hy : y.cls ≠ "java/lang/invoke/MethodHandle" ∧ y.cls ≠ "java/lang/invoke/VarHandle")
    {W9 : Nat} {Pre : Pt → Array Value → Prop} {Post : Pt → Array Value → Option Value → Pt → Prop} {PostX : Pt → Array Value → Addr → Pt → Prop} (hK : vx_Back l R p e below s args y 3 W9 Pre Post PostX)
    {b : Addr} {cellB : Cell} (hcell : T.heap[b]? = some cellB) (hobj : cellB.vm.isStatics = false) (hcls : s.vm.findClass C = some cellB.cls)
    {g : JFrame} (hg : g.method = m) (hsize : g.locals.size = c.maxLocals) {argsL rest : List Value} (hlen : ∀ sig, parseMethodDescriptor y.desc = some sig → argsL.length = sig.parameters.length)
    (hstack : g.stack = argsL.reverse ++ .ref b :: rest) (hW : 2 * g.monitorRoom + (rest.map fun v => v.category).sum ≤ W9) (hdg : decode c.code g.pc = .ok (.invokevirtual index, 3))
    (hpre : ∀ vm₁, s.WarmedH vm₁ → Pre ⟨T.setVm vm₁, locs, cells, slots⟩ (Value.ref b :: argsL).toArray) :
    (∃ (v : Option Value) (vm₁ : Vm) (B : Pt), s.WarmedH vm₁ ∧ Stand p l e R s m args below meth c B.U B.locs B.cells B.slots ∧ Post ⟨T.setVm vm₁, locs, cells, slots⟩ (Value.ref b :: argsL).toArray v B ∧
      ∀ target, Steps p.tables e below (B.U.setTop { g with pc := g.pc + 3, stack := v.toList ++ rest }) target → Steps p.tables e below (T.setTop g) target) ∨
    (∃ (q : Addr) (vm₁ : Vm) (B : Pt), s.WarmedH vm₁ ∧ Stand p l e R s m args below meth c B.U B.locs B.cells B.slots ∧ PostX ⟨T.setVm vm₁, locs, cells, slots⟩ (Value.ref b :: argsL).toArray q B ∧
      Steps p.tables e below (T.setTop g) ((B.U.setTop { g with stack := rest }).pushFrame (.throwing q))) := by
  obtain ⟨mk, methM, hnamed, hmethM, hstM, habM⟩ := Cond.instanceMethod_spec hinst
  obtain ⟨m8, methM', cM, hn8, hmethM', -, -, -, -, -, -, hsigM⟩ := Cond.codeWith_spec hcode
  cases Option.some.inj (hn8.symm.trans hnamed)
  cases hmethM.symm.trans hmethM'
  obtain ⟨c2, r2, m2, q1, q2, q3, q4, kP, hkP, hkPi⟩ := Cond.selects_spec hsel
  cases hcls.symm.trans q1
  cases (State.methodFound?_of_named hnamed hy).symm.trans q2
  cases hnamed.symm.trans q3
  have hselP : selectMethod e.platform s.vm cellB.cls mk = .method mk := by rw [Launch.admits_selectMethod X.admits]; exact q4
  obtain ⟨vm₁, X₁, hstep₁⟩ := X.invokevirtual hexec hown hlink hnamed hmethM hstM hkP hkPi hy (a := b) (cell := cellB) hcell
    (fun z h => by rw [h] at hobj; cases hobj) hselP hmethM habM hkP hkPi (g := g) hg (argsL := argsL) (rest := rest) (hlen _ hsigM) hstack hdg
  rcases hK m meth c ⟨T.setVm vm₁, locs, cells, slots⟩ { g with stack := rest } (.invokevirtual index) mk (Value.ref b :: argsL).toArray X₁ hg hsize hdg hW (X₁.named hnamed) (hpre vm₁ X₁.warmed) with ⟨v, B, X', hpost, hsteps⟩ | ⟨q, B, X', hpost, hsteps⟩
  · exact Or.inl ⟨v, vm₁, B, X₁.warmed, X', hpost, fun target h => hstep₁ _ fun acts => by rw [doInvoke_state]; exact hsteps.trans h⟩
  · exact Or.inr ⟨q, vm₁, B, X₁.warmed, X', hpost, hstep₁ _ fun acts => by rw [doInvoke_state]; exact hsteps⟩
theorem vx_callSX (X : Stand p l e R s m args below meth c T locs cells slots) (hexec : p.tables.exec = Jvm.exec) {own : String} {index : Nat} {y : MethodName} {bytes : ByteArray} {maxL : Nat} {ret : Option FieldType} {hh : List (Nat × Nat × Nat × Nat)}
    (hown : s.vm.findClass own = some m.cls) (hlink : (Cond.methodLink own index y).before args s = true) (hstat : (Cond.static y).before args s = true) (hinit : (Cond.initialized y.cls).before args s = true)
    (hcode : (Cond.codeWith y bytes maxL ret hh).before args s = true) (hy : y.cls ≠ "java/lang/invoke/MethodHandle" ∧ y.cls ≠ "java/lang/invoke/VarHandle")
    {W9 : Nat} {Pre : Pt → Array Value → Prop} {Post : Pt → Array Value → Option Value → Pt → Prop} {PostX : Pt → Array Value → Addr → Pt → Prop} (hK : vx_Back l R p e below s args y 3 W9 Pre Post PostX)
    {g : JFrame} (hg : g.method = m) (hsize : g.locals.size = c.maxLocals) {argsL rest : List Value} (hlen : ∀ sig, parseMethodDescriptor y.desc = some sig → argsL.length = sig.parameters.length)
    (hstack : g.stack = argsL.reverse ++ rest) (hW : 2 * g.monitorRoom + (rest.map fun v => v.category).sum ≤ W9) (hdg : decode c.code g.pc = .ok (.invokestatic index, 3))
    (hpre : ∀ vm₁, s.WarmedH vm₁ → Pre ⟨T.setVm vm₁, locs, cells, slots⟩ argsL.toArray) :
    (∃ (v : Option Value) (vm₁ : Vm) (B : Pt), s.WarmedH vm₁ ∧ Stand p l e R s m args below meth c B.U B.locs B.cells B.slots ∧ Post ⟨T.setVm vm₁, locs, cells, slots⟩ argsL.toArray v B ∧
      ∀ target, Steps p.tables e below (B.U.setTop { g with pc := g.pc + 3, stack := v.toList ++ rest }) target → Steps p.tables e below (T.setTop g) target) ∨
    (∃ (q : Addr) (vm₁ : Vm) (B : Pt), s.WarmedH vm₁ ∧ Stand p l e R s m args below meth c B.U B.locs B.cells B.slots ∧ PostX ⟨T.setVm vm₁, locs, cells, slots⟩ argsL.toArray q B ∧
      Steps p.tables e below (T.setTop g) ((B.U.setTop { g with stack := rest }).pushFrame (.throwing q))) := by
  obtain ⟨mk, methM, cM, hnamed, hmethM, -, -, -, -, -, -, hsigM⟩ := Cond.codeWith_spec hcode
  have hstatic : methM.isStatic = true := Cond.static_spec hnamed hmethM hstat
  obtain ⟨kP, hkP, -⟩ := className_of_methodNamed hnamed
  have hinitP : kP.init = .initialized := Cond.initialized_spec (findClass_of_methodNamed hnamed) hkP hinit
  obtain ⟨vm₁, X₁, hstep₁⟩ := X.invokestatic hexec hown hlink hnamed hmethM hstatic hkP hinitP hy (g := g) hg (argsL := argsL) (rest := rest) (hlen _ hsigM) hstack hdg
  rcases hK m meth c ⟨T.setVm vm₁, locs, cells, slots⟩ { g with stack := rest } (.invokestatic index) mk argsL.toArray X₁ hg hsize hdg hW (X₁.named hnamed) (hpre vm₁ X₁.warmed) with ⟨v, B, X', hpost, hsteps⟩ | ⟨q, B, X', hpost, hsteps⟩
  · exact Or.inl ⟨v, vm₁, B, X₁.warmed, X', hpost, fun target h => hstep₁ _ fun acts => by rw [doInvoke_state]; exact hsteps.trans h⟩
  · exact Or.inr ⟨q, vm₁, B, X₁.warmed, X', hpost, hstep₁ _ fun acts => by rw [doInvoke_state]; exact hsteps⟩
theorem vx_callVW (X : Stand p l e R s m args below meth c T locs cells slots) (hexec : p.tables.exec = Jvm.exec) {own C : String} {index : Nat} {y : MethodName} {bytes : ByteArray} {maxL : Nat} {ret : Option FieldType} {hh : List (Nat × Nat × Nat × Nat)}
    (hown : s.vm.findClass own = some m.cls) (hlink : (Cond.methodLink own index y).before args s = true) (hinst : (Cond.instanceMethod y).before args s = true) (hsel : (Cond.selects C y y).before args s = true)
    (hcode : (Cond.codeWith y bytes maxL ret hh).before args s = true) (hy : y.cls ≠ "java/lang/invoke/MethodHandle" ∧ y.cls ≠ "java/lang/invoke/VarHandle")
    {W9 : Nat} {Pre : Pt → Array Value → Prop} {Post : Pt → Array Value → Option Value → Pt → Prop} (hK : Back l R p e below s args y 3 W9 Pre Post)
    {b : Addr} {cellB : Cell} (hcell : T.heap[b]? = some cellB) (hobj : cellB.vm.isStatics = false) (hcls : s.vm.findClass C = some cellB.cls)
    {g : JFrame} (hg : g.method = m) (hsize : g.locals.size = c.maxLocals) {argsL rest : List Value} (hlen : ∀ sig, parseMethodDescriptor y.desc = some sig → argsL.length = sig.parameters.length)
    (hstack : g.stack = argsL.reverse ++ .ref b :: rest) (hW : 2 * g.monitorRoom + (rest.map fun v => v.category).sum ≤ W9) (hdg : decode c.code g.pc = .ok (.invokevirtual index, 3))
    (hpre : ∀ vm₁, s.WarmedH vm₁ → Pre ⟨T.setVm vm₁, locs, cells, slots⟩ (Value.ref b :: argsL).toArray) :
    ∃ (v : Option Value) (vm₁ : Vm) (B : Pt), s.WarmedH vm₁ ∧ Stand p l e R s m args below meth c B.U B.locs B.cells B.slots ∧ Post ⟨T.setVm vm₁, locs, cells, slots⟩ (Value.ref b :: argsL).toArray v B ∧
      ∀ target, Steps p.tables e below (B.U.setTop { g with pc := g.pc + 3, stack := v.toList ++ rest }) target → Steps p.tables e below (T.setTop g) target := by
  obtain ⟨mk, methM, hnamed, hmethM, hstM, habM⟩ := Cond.instanceMethod_spec hinst
  obtain ⟨m8, methM', cM, hn8, hmethM', -, -, -, -, -, -, hsigM⟩ := Cond.codeWith_spec hcode
  cases Option.some.inj (hn8.symm.trans hnamed)
  cases hmethM.symm.trans hmethM'
  obtain ⟨c2, r2, m2, q1, q2, q3, q4, kP, hkP, hkPi⟩ := Cond.selects_spec hsel
  cases hcls.symm.trans q1
  cases (State.methodFound?_of_named hnamed hy).symm.trans q2
  cases hnamed.symm.trans q3
  have hselP : selectMethod e.platform s.vm cellB.cls mk = .method mk := by rw [Launch.admits_selectMethod X.admits]; exact q4
  obtain ⟨vm₁, X₁, hstep₁⟩ := X.invokevirtual hexec hown hlink hnamed hmethM hstM hkP hkPi hy (a := b) (cell := cellB) hcell
    (fun z h => by rw [h] at hobj; cases hobj) hselP hmethM habM hkP hkPi (g := g) hg (argsL := argsL) (rest := rest) (hlen _ hsigM) hstack hdg
  obtain ⟨v, B, X', hpost, hsteps⟩ := hK m meth c ⟨T.setVm vm₁, locs, cells, slots⟩ { g with stack := rest } (.invokevirtual index) mk (Value.ref b :: argsL).toArray X₁ hg hsize hdg hW (X₁.named hnamed) (hpre vm₁ X₁.warmed)
  exact ⟨v, vm₁, B, X₁.warmed, X', hpost, fun target h => hstep₁ _ fun acts => by rw [doInvoke_state]; exact hsteps.trans h⟩
abbrev vx_CVW (R : Room) (s : State) (args : Array Value) (own C : String) (index : Nat) (y : MethodName) (bytes : ByteArray) (maxL : Nat) (ret : Option FieldType) (hh : List (Nat × Nat × Nat × Nat)) (ws : List Cond) (rm : Room) (mc ms n : Nat) : Prop :=
  (rm.cells = mc ∧ rm.slots = ms ∧ rm.frames + 1 ≤ R.frames ∧ 8 + (maxL + 11) + rm.locals ≤ R.locals ∧ (∀ w ∈ ws, ∀ (a' : Array Value) (U : State), s.WarmedH U.vm → w.before a' U = true) ∧ Cond.codeWith y bytes maxL ret hh ∈ ws) ∧
  (Cond.codeWith y bytes maxL ret hh).before args s = true ∧ (Cond.initialized y.cls).before args s = true ∧ (y.cls ≠ "java/lang/invoke/MethodHandle" ∧ y.cls ≠ "java/lang/invoke/VarHandle") ∧
  (∀ sig, parseMethodDescriptor y.desc = some sig → n = sig.parameters.length) ∧ (Cond.methodLink own index y).before args s = true ∧ (Cond.instanceMethod y).before args s = true ∧ (Cond.selects C y y).before args s = true
theorem vx_cwVW {own C : String} {index maxL mc ms : Nat} {y : MethodName} {bytes : ByteArray} {ret : Option FieldType} {hh : List (Nat × Nat × Nat × Nat)} {Ts ws ws' : List Cond} {rm : Room} (n : Nat) (ht : ∀ w ∈ Ts, w.before args s = true) (hT : GoodIn Ts (wsV own index C y ws)) (hw : ws = Cond.codeWith y bytes maxL ret hh :: ws') (hrc : rm.cells = mc) (hrs : rm.slots = ms)
    (hd : y.cls = C ∧ y.cls ≠ "java/lang/invoke/MethodHandle" ∧ y.cls ≠ "java/lang/invoke/VarHandle" ∧ (parseMethodDescriptor y.desc).map (fun d => d.parameters.length) = some n) (hR : rm.frames + 1 ≤ R.frames ∧ 8 + (maxL + 11) + rm.locals ≤ R.locals) :
    vx_CVW R s args own C index y bytes maxL ret hh ws rm mc ms n := by
  obtain ⟨hC, hd⟩ := hd
  subst hC
  have ok : ∀ w ∈ wsV own index y.cls y ws, w.before args s = true := fun w h => ht w (hT w h).1
  have hG : GoodIn Ts ws := fun w h => hT w (by unfold wsV; exact List.mem_append_right _ h)
  have hc : Cond.codeWith y bytes maxL ret hh ∈ ws := by rw [hw]; exact List.mem_cons_self
  refine ⟨⟨hrc, hrs, hR.1, hR.2, pay_in ht hG, hc⟩, ht _ (hG _ hc).1, ok _ (by simp [wsV]), ⟨hd.1, hd.2.1⟩, fun sig h => ?_, ok _ (by simp [wsV]), ok _ (by simp [wsV]), ok _ (by simp [wsV])⟩
  have h2 := hd.2.2
  rw [h] at h2
  exact (Option.some.inj h2).symm
theorem vx_runVW {y : MethodName} {bytes cc : ByteArray} {maxL nL mc ms n index : Nat} {ret : Option FieldType} {hh : List (Nat × Nat × Nat × Nat)} {ws : List Cond} {rm : Room} {Pc : Array Value → State → Prop} {Qc : Array Value → State → Outcome → State → Prop} {free : Addr → Prop} {Ts : List Cond} {own C : String} {b : Addr} {As rest : List Value} {g : JFrame}
    (S : CallFix p m c cc nL s args Ts own) (hM : Met l y ws rm Pc Qc mc ms free) (cw : vx_CVW R s args own C index y bytes maxL ret hh ws rm mc ms n) (hp : PreV s H C b Pc As)
    (hg : g.method = m) (hn : As.length = n) (hsize : g.locals.size = nL) (hstack : g.stack = As.reverse ++ .ref b :: rest) (hW : 2 * g.monitorRoom + (rest.map fun v => v.category).sum ≤ 8) (hdg : decode cc g.pc = .ok (.invokevirtual index, 3)) (hf : cells + mc ≤ R.cells ∧ slots + ms ≤ R.slots) :
    va_Run p l e R s m args below meth c H locs cells slots mc ms g rest (Qc (Value.ref b :: As).toArray) free := by
  obtain ⟨⟨hrc, hrs, hfr, hlo, hws, hcw⟩, hcode, hini, hy, hlen, hl, hin, hse⟩ := cw
  have hK : Back l R p e below s args y 3 8 (PreOf R mc ms Pc) (PostOf Qc mc ms free) := va_backW (hh := hh) (bytes := bytes) (maxL := maxL) (ret := ret) hM hp.1 hrc hrs hfr hlo hws hcw (fun a' U hW => word_at hW (Or.inl (by first | rfl | simp [Cond.onTables, Cond.keeps, Cond.steady])) hini)
  obtain ⟨hx, hb, hml, ho, -⟩ := S
  obtain ⟨-, ⟨cellB, hcB, hoB, hclB⟩, hPc⟩ := hp
  intro T hT X
  obtain ⟨v, vm₁, ⟨U', l2, c2, s2⟩, hW₁, X', ⟨g', mk, t, L, e1, e2, hq, h1, hL, h2, h3⟩, st⟩ := vx_callVW X hx (C := C) (hh := hh) (bytes := bytes) (maxL := maxL) (ret := ret) ho hl hin hse hcode hy hK (by rw [hT]; exact hcB) hoB hclB hg (hsize.trans hml.symm) (argsL := As) (rest := rest) (fun sig h => hn.trans (hlen sig h)) hstack hW (by rw [hb]; exact hdg)
    (fun vm₁ hW₁ => ⟨hf.1, hf.2, hPc (T.setVm vm₁) hT hW₁⟩)
  dsimp only [Pt.U, Pt.locs, Pt.cells, Pt.slots] at X' e1 e2 h1 h2 h3 st
  subst h1; subst h2; subst h3
  exact ⟨v, (T.setVm vm₁).calling g' mk (Value.ref b :: As).toArray, t, U', L, hT, X', hL, e1, e2, hq, st⟩
section
variable {y : MethodName} {bytes cc : ByteArray} {maxL nL mc ms n index : Nat} {ret : Option FieldType} {ws : List Cond} {rm : Room} {Pc : Array Value → State → Prop} {Qc : Array Value → State → Outcome → State → Prop} {XC : String → State → State → Prop} {free : Addr → Prop} {Ts : List Cond} {own C : String} {b : Addr} {As rest : List Value} {g : JFrame}
theorem vx_runVX {hh : List (Nat × Nat × Nat × Nat)} (S : CallFix p m c cc nL s args Ts own) (hM : vx_Met l y ws rm Pc Qc XC mc ms free) (cw : vx_CVW R s args own C index y bytes maxL ret hh ws rm mc ms n) (hp : PreV s H C b Pc As)
    (hg : g.method = m) (hn : As.length = n) (hsize : g.locals.size = nL) (hstack : g.stack = As.reverse ++ .ref b :: rest) (hW : 2 * g.monitorRoom + (rest.map fun v => v.category).sum ≤ 8) (hdg : decode cc g.pc = .ok (.invokevirtual index, 3)) (hf : cells + mc ≤ R.cells ∧ slots + ms ≤ R.slots) :
    vx_Run p l e R s m args below meth c H locs cells slots mc ms g rest (Qc (Value.ref b :: As).toArray) XC free := by
  obtain ⟨⟨hrc, hrs, hfr, hlo, hws, hcw⟩, hcode, hini, hy, hlen, hl, hin, hse⟩ := cw
  have hK : vx_Back l R p e below s args y 3 8 (PreOf R mc ms Pc) (PostOf Qc mc ms free) (vx_Post XC mc ms free) := vx_backW (hh := hh) (bytes := bytes) (maxL := maxL) (ret := ret) hM hp.1 hrc hrs hfr hlo hws hcw (fun a' U hW => word_at hW (Or.inl (by first | rfl | simp [Cond.onTables, Cond.keeps, Cond.steady])) hini)
  obtain ⟨hx, hb, hml, ho, -⟩ := S
  obtain ⟨-, ⟨cellB, hcB, hoB, hclB⟩, hPc⟩ := hp
  intro T hT X
  rcases vx_callVX X hx (C := C) (hh := hh) (bytes := bytes) (maxL := maxL) (ret := ret) ho hl hin hse hcode hy hK (by rw [hT]; exact hcB) hoB hclB hg (hsize.trans hml.symm) (argsL := As) (rest := rest) (fun sig h => hn.trans (hlen sig h)) hstack hW (by rw [hb]; exact hdg)
    (fun vm₁ hW₁ => ⟨hf.1, hf.2, hPc (T.setVm vm₁) hT hW₁⟩) with ⟨v, vm₁, ⟨U', l2, c2, s2⟩, hW₁, X', ⟨g', mk, t, L, e1, e2, hq, h1, hL, h2, h3⟩, st⟩ | ⟨q, vm₁, ⟨U', l2, c2, s2⟩, hW₁, X', ⟨g', mk, t, L, E, ce, e1, e2, hq, hce, hcv, hcl, h1, hL, h2, h3⟩, st⟩
  · dsimp only [Pt.U, Pt.locs, Pt.cells, Pt.slots] at X' e1 e2 h1 h2 h3 st
    subst h1; subst h2; subst h3
    exact Or.inl ⟨v, (T.setVm vm₁).calling g' mk (Value.ref b :: As).toArray, t, U', L, hT, X', hL, e1, e2, hq, st⟩
  · dsimp only [Pt.U, Pt.locs, Pt.cells, Pt.slots] at X' e1 e2 h1 h2 h3 st hcl
    subst h1; subst h2; subst h3
    exact Or.inr ⟨q, (T.setVm vm₁).calling g' mk (Value.ref b :: As).toArray, t, U', L, E, ce, hT, X', hL, e1, e2, hq, hce, hcv, vx_cls hW₁ hcl, st⟩
theorem vx_runSX {hh : List (Nat × Nat × Nat × Nat)} (S : CallFix p m c cc nL s args Ts own) (hM : vx_Met l y ws rm Pc Qc XC mc ms free) (cw : vx_CSW R s args own index y bytes maxL ret hh ws rm mc ms n) (hp : PreS s H Pc As)
    (hg : g.method = m) (hn : As.length = n) (hsize : g.locals.size = nL) (hstack : g.stack = As.reverse ++ rest) (hW : 2 * g.monitorRoom + (rest.map fun v => v.category).sum ≤ 8) (hdg : decode cc g.pc = .ok (.invokestatic index, 3)) (hf : cells + mc ≤ R.cells ∧ slots + ms ≤ R.slots) :
    vx_Run p l e R s m args below meth c H locs cells slots mc ms g rest (Qc As.toArray) XC free := by
  obtain ⟨⟨hrc, hrs, hfr, hlo, hws, hcw⟩, hcode, hini, hy, hlen, hl, hstt⟩ := cw
  have hK : vx_Back l R p e below s args y 3 8 (PreOf R mc ms Pc) (PostOf Qc mc ms free) (vx_Post XC mc ms free) := vx_backW (hh := hh) (bytes := bytes) (maxL := maxL) (ret := ret) hM hp.1 hrc hrs hfr hlo hws hcw (fun a' U hW => word_at hW (Or.inl (by first | rfl | simp [Cond.onTables, Cond.keeps, Cond.steady])) hini)
  obtain ⟨hx, hb, hml, ho, -⟩ := S
  intro T hT X
  rcases vx_callSX X hx (hh := hh) (bytes := bytes) (maxL := maxL) (ret := ret) ho hl hstt hini hcode hy hK hg (hsize.trans hml.symm) (argsL := As) (rest := rest) (fun sig h => hn.trans (hlen sig h)) hstack hW (by rw [hb]; exact hdg)
    (fun vm₁ hW₁ => ⟨hf.1, hf.2, hp.2 (T.setVm vm₁) hT hW₁⟩) with ⟨v, vm₁, ⟨U', l2, c2, s2⟩, hW₁, X', ⟨g', mk, t, L, e1, e2, hq, h1, hL, h2, h3⟩, st⟩ | ⟨q, vm₁, ⟨U', l2, c2, s2⟩, hW₁, X', ⟨g', mk, t, L, E, ce, e1, e2, hq, hce, hcv, hcl, h1, hL, h2, h3⟩, st⟩
  · dsimp only [Pt.U, Pt.locs, Pt.cells, Pt.slots] at X' e1 e2 h1 h2 h3 st
    subst h1; subst h2; subst h3
    exact Or.inl ⟨v, (T.setVm vm₁).calling g' mk As.toArray, t, U', L, hT, X', hL, e1, e2, hq, st⟩
  · dsimp only [Pt.U, Pt.locs, Pt.cells, Pt.slots] at X' e1 e2 h1 h2 h3 st hcl
    subst h1; subst h2; subst h3
    exact Or.inr ⟨q, (T.setVm vm₁).calling g' mk As.toArray, t, U', L, E, ce, hT, X', hL, e1, e2, hq, hce, hcv, vx_cls hW₁ hcl, st⟩
end
end VXH
theorem vx_ofWH {l : Launch} {y : MethodName} {ws ws' : List Cond} {rm : Room} {Pc : Array Value → State → Prop} {Qc : Array Value → State → Outcome → State → Prop} {XC : String → State → State → Prop} {mc ms : Nat} {free : Addr → Prop} {cc : ByteArray} {maxL : Nat} {ret : Option FieldType} {hh : List (Nat × Nat × Nat × Nat)}
    (hy : plainName y.cls = true) (hw : ws = Cond.codeWith y cc maxL ret hh :: ws')
    (body : ∀ p e s m args below meth c s₁, BodyLoose p l y (headSpec ws rm) cc maxL ret e s m args below meth c s₁ → c.maxLocals = maxL → Pc args s →
      W p l e (headSpec ws rm).room s m args below meth c s.heap [] 0 0 (vx_MQ below Qc XC args s mc ms free) (entryFrame m args maxL)) : vx_Met l y ws rm Pc Qc XC mc ms free := by
  refine MetFree.of_bodyS (code := cc) (maxLocals := maxL) (ret := ret) hy ?_ ?_
  · intro args s m h hn
    obtain ⟨m9, meth, c, hn9, h1, h2, h3, h4, -, h5, h6, -⟩ := Cond.codeWith_spec (atoms_spec (ws := ws) h _ (by rw [hw]; exact List.mem_cons_self))
    cases hn.symm.trans hn9
    exact ⟨meth, c, h1, h2, h3, h4, h5, h6⟩
  · intro p e s m args below meth c s₁ B hml hP _
    have hh0 : s₁.heap = s.heap := by rw [B.state]; rfl
    obtain ⟨t, a1, o, b1, b2, b3⟩ := body p e s m args below meth c s₁ B hml hP s₁ hh0 (Stand.of_body B)
    exact ⟨t, o, a1, b1, b2, b3⟩
/-! ===== END ===== -/
end
section
def RX0 : String := "CourseEnrolment$Course"
def TX0 : u_T := fun k => match k with
  | 0 => ("CourseEnrolment$Course", "number", "I", true)
  | 1 => ("CourseEnrolment$Course", "waitingList", "LCourseEnrolment$Row;", true)
  | 2 => ("CourseEnrolment$Course", "offerMadeOn", "[I", true)
  | 3 => ("CourseEnrolment$Course", "seatCount", "I", false)
  | 4 => ("CourseEnrolment$Course", "creditPoints", "I", false)
  | 5 => ("CourseEnrolment$Course", "hourSet", "I", false)
  | 6 => ("CourseEnrolment$Course", "directSet", "I", false)
  | _ => ("CourseEnrolment$Course", "requiredSet", "I", false)
def tyX0 : Nat → FieldType := fun k => match k with
  | 0 => .int
  | 1 => .object "CourseEnrolment$Row"
  | 2 => .array .int
  | 3 => .int
  | 4 => .int
  | 5 => .int
  | 6 => .int
  | _ => .int
abbrev wsX00 : List Cond := u_ws RX0 TX0 8
theorem nmX0 : ∀ a, a < 8 → ∀ b, b < 8 → a ≠ b → (TX0 a).2.1 ≠ (TX0 b).2.1 := by decide +kernel
theorem tyX0_ok : ∀ k, k < 8 → parseFieldDescriptor (TX0 k).2.2.1 = some (tyX0 k) := by decide +kernel
abbrev cX0_init : ByteArray := prog_2_method_1_code
def yX0_init : MethodName := ⟨RX0, "<init>", "(I)V"⟩
abbrev cX0_hasOfferFor : ByteArray := prog_2_method_2_code
def yX0_hasOfferFor : MethodName := ⟨RX0, "hasOfferFor", "(I)Z"⟩
abbrev cX0_offers : ByteArray := prog_2_method_3_code
def yX0_offers : MethodName := ⟨RX0, "offers", "()I"⟩
abbrev cX0_takeOff : ByteArray := prog_2_method_4_code
def yX0_takeOff : MethodName := ⟨RX0, "takeOff", "(I)V"⟩
def RX1 : String := "CourseEnrolment$Row"
def TX1 : u_T := fun k => match k with
  | 0 => ("CourseEnrolment$Row", "items", "[I", true)
  | _ => ("CourseEnrolment$Row", "count", "I", false)
def tyX1 : Nat → FieldType := fun k => match k with
  | 0 => .array .int
  | _ => .int
abbrev wsX10 : List Cond := u_ws RX1 TX1 2
theorem nmX1 : ∀ a, a < 2 → ∀ b, b < 2 → a ≠ b → (TX1 a).2.1 ≠ (TX1 b).2.1 := by decide +kernel
theorem tyX1_ok : ∀ k, k < 2 → parseFieldDescriptor (TX1 k).2.2.1 = some (tyX1 k) := by decide +kernel
abbrev cX1_init : ByteArray := prog_3_method_1_code
def yX1_init : MethodName := ⟨RX1, "<init>", "([I)V"⟩
abbrev cX1_size : ByteArray := prog_3_method_2_code
def yX1_size : MethodName := ⟨RX1, "size", "()I"⟩
abbrev cX1_at : ByteArray := prog_3_method_3_code
def yX1_at : MethodName := ⟨RX1, "at", "(I)I"⟩
abbrev cX1_placeOf : ByteArray := prog_3_method_4_code
def yX1_placeOf : MethodName := ⟨RX1, "placeOf", "(I)I"⟩
abbrev cX1_add : ByteArray := prog_3_method_5_code
def yX1_add : MethodName := ⟨RX1, "add", "(I)V"⟩
abbrev cX1_remove : ByteArray := prog_3_method_6_code
def yX1_remove : MethodName := ⟨RX1, "remove", "(I)V"⟩
def RX2 : String := "CourseEnrolment$Student"
def TX2 : u_T := fun k => match k with
  | 0 => ("CourseEnrolment$Student", "number", "I", true)
  | 1 => ("CourseEnrolment$Student", "wishList", "LCourseEnrolment$Row;", true)
  | 2 => ("CourseEnrolment$Student", "priorityBand", "I", false)
  | 3 => ("CourseEnrolment$Student", "creditLimit", "I", false)
  | 4 => ("CourseEnrolment$Student", "passedSet", "I", false)
  | 5 => ("CourseEnrolment$Student", "takenSet", "I", false)
  | 6 => ("CourseEnrolment$Student", "drawnNumber", "I", false)
  | 7 => ("CourseEnrolment$Student", "coursePutUp", "I", false)
  | 8 => ("CourseEnrolment$Student", "pointer", "I", false)
  | _ => ("CourseEnrolment$Student", "gain", "I", false)
def tyX2 : Nat → FieldType := fun k => match k with
  | 0 => .int
  | 1 => .object "CourseEnrolment$Row"
  | 2 => .int
  | 3 => .int
  | 4 => .int
  | 5 => .int
  | 6 => .int
  | 7 => .int
  | 8 => .int
  | _ => .int
abbrev wsX20 : List Cond := u_ws RX2 TX2 10
theorem nmX2 : ∀ a, a < 10 → ∀ b, b < 10 → a ≠ b → (TX2 a).2.1 ≠ (TX2 b).2.1 := by decide +kernel
theorem tyX2_ok : ∀ k, k < 10 → parseFieldDescriptor (TX2 k).2.2.1 = some (tyX2 k) := by decide +kernel
abbrev cX2_init : ByteArray := prog_4_method_1_code
def yX2_init : MethodName := ⟨RX2, "<init>", "(I)V"⟩
def RX3 : String := "CourseEnrolment"
def TX3 : u_T := fun k => match k with
  | 0 => ("CourseEnrolment", "allCourses", "[LCourseEnrolment$Course;", true)
  | 1 => ("CourseEnrolment", "allStudents", "[LCourseEnrolment$Student;", true)
  | 2 => ("CourseEnrolment", "courseCount", "I", false)
  | 3 => ("CourseEnrolment", "studentCount", "I", false)
  | 4 => ("CourseEnrolment", "today", "I", false)
  | _ => ("CourseEnrolment", "turns", "[I", true)
def tyX3 : Nat → FieldType := fun k => match k with
  | 0 => .array (.object "CourseEnrolment$Course")
  | 1 => .array (.object "CourseEnrolment$Student")
  | 2 => .int
  | 3 => .int
  | 4 => .int
  | _ => .array .int
abbrev wsX30 : List Cond := u_ws RX3 TX3 6
theorem nmX3 : ∀ a, a < 6 → ∀ b, b < 6 → a ≠ b → (TX3 a).2.1 ≠ (TX3 b).2.1 := by decide +kernel
theorem tyX3_ok : ∀ k, k < 6 → parseFieldDescriptor (TX3 k).2.2.1 = some (tyX3 k) := by decide +kernel
abbrev cX3_init : ByteArray := prog_1_method_1_code
def yX3_init : MethodName := ⟨RX3, "<init>", "()V"⟩
abbrev cX3_addCourse : ByteArray := prog_1_method_2_code
def yX3_addCourse : MethodName := ⟨RX3, "addCourse", "(III)I"⟩
abbrev cX3_setSeats : ByteArray := prog_1_method_3_code
def yX3_setSeats : MethodName := ⟨RX3, "setSeats", "(II)I"⟩
abbrev cX3_addPrerequisite : ByteArray := prog_1_method_4_code
def yX3_addPrerequisite : MethodName := ⟨RX3, "addPrerequisite", "(II)I"⟩
abbrev cX3_requires : ByteArray := prog_1_method_5_code
def yX3_requires : MethodName := ⟨RX3, "requires", "(II)Z"⟩
abbrev cX3_level : ByteArray := prog_1_method_6_code
def yX3_level : MethodName := ⟨RX3, "level", "(I)I"⟩
abbrev cX3_courses : ByteArray := prog_1_method_7_code
def yX3_courses : MethodName := ⟨RX3, "courses", "()I"⟩
abbrev cX3_enrolled : ByteArray := prog_1_method_8_code
def yX3_enrolled : MethodName := ⟨RX3, "enrolled", "(I)I"⟩
abbrev cX3_freeSeats : ByteArray := prog_1_method_9_code
def yX3_freeSeats : MethodName := ⟨RX3, "freeSeats", "(I)I"⟩
abbrev cX3_addStudent : ByteArray := prog_1_method_10_code
def yX3_addStudent : MethodName := ⟨RX3, "addStudent", "(II)I"⟩
abbrev cX3_pass : ByteArray := prog_1_method_11_code
def yX3_pass : MethodName := ⟨RX3, "pass", "(II)I"⟩
abbrev cX3_students : ByteArray := prog_1_method_12_code
def yX3_students : MethodName := ⟨RX3, "students", "()I"⟩
abbrev cX3_hasPassed : ByteArray := prog_1_method_13_code
def yX3_hasPassed : MethodName := ⟨RX3, "hasPassed", "(II)Z"⟩
abbrev cX3_isEnrolled : ByteArray := prog_1_method_14_code
def yX3_isEnrolled : MethodName := ⟨RX3, "isEnrolled", "(II)Z"⟩
abbrev cX3_credits : ByteArray := prog_1_method_15_code
def yX3_credits : MethodName := ⟨RX3, "credits", "(I)I"⟩
abbrev cX3_missing : ByteArray := prog_1_method_16_code
def yX3_missing : MethodName := ⟨RX3, "missing", "(II)I"⟩
abbrev cX3_obstacle : ByteArray := prog_1_method_17_code
def yX3_obstacle : MethodName := ⟨RX3, "obstacle", "(II)I"⟩
abbrev cX3_wish : ByteArray := prog_1_method_18_code
def yX3_wish : MethodName := ⟨RX3, "wish", "(II)I"⟩
abbrev cX3_dropWish : ByteArray := prog_1_method_19_code
def yX3_dropWish : MethodName := ⟨RX3, "dropWish", "(II)I"⟩
abbrev cX3_wishes : ByteArray := prog_1_method_20_code
def yX3_wishes : MethodName := ⟨RX3, "wishes", "(I)I"⟩
abbrev cX3_wishAt : ByteArray := prog_1_method_21_code
def yX3_wishAt : MethodName := ⟨RX3, "wishAt", "(II)I"⟩
abbrev cX3_request : ByteArray := prog_1_method_22_code
def yX3_request : MethodName := ⟨RX3, "request", "(II)I"⟩
abbrev cX3_drop : ByteArray := prog_1_method_23_code
def yX3_drop : MethodName := ⟨RX3, "drop", "(II)I"⟩
abbrev cX3_change : ByteArray := prog_1_method_24_code
def yX3_change : MethodName := ⟨RX3, "change", "(III)I"⟩
abbrev cX3_accept : ByteArray := prog_1_method_25_code
def yX3_accept : MethodName := ⟨RX3, "accept", "(II)I"⟩
abbrev cX3_leave : ByteArray := prog_1_method_26_code
def yX3_leave : MethodName := ⟨RX3, "leave", "(II)Z"⟩
abbrev cX3_advance : ByteArray := prog_1_method_27_code
def yX3_advance : MethodName := ⟨RX3, "advance", "(I)I"⟩
abbrev cX3_day : ByteArray := prog_1_method_28_code
def yX3_day : MethodName := ⟨RX3, "day", "()I"⟩
abbrev cX3_waiting : ByteArray := prog_1_method_29_code
def yX3_waiting : MethodName := ⟨RX3, "waiting", "(I)I"⟩
abbrev cX3_waitingAt : ByteArray := prog_1_method_30_code
def yX3_waitingAt : MethodName := ⟨RX3, "waitingAt", "(II)I"⟩
abbrev cX3_offerDays : ByteArray := prog_1_method_31_code
def yX3_offerDays : MethodName := ⟨RX3, "offerDays", "(II)I"⟩
abbrev cX3_runLottery : ByteArray := prog_1_method_32_code
def yX3_runLottery : MethodName := ⟨RX3, "runLottery", "(I)I"⟩
abbrev cX3_lotteryNumber : ByteArray := prog_1_method_33_code
def yX3_lotteryNumber : MethodName := ⟨RX3, "lotteryNumber", "(I)I"⟩
abbrev cX3_putUp : ByteArray := prog_1_method_34_code
def yX3_putUp : MethodName := ⟨RX3, "putUp", "(II)I"⟩
abbrev cX3_withdraw : ByteArray := prog_1_method_35_code
def yX3_withdraw : MethodName := ⟨RX3, "withdraw", "(I)I"⟩
abbrev cX3_placeUp : ByteArray := prog_1_method_36_code
def yX3_placeUp : MethodName := ⟨RX3, "placeUp", "(I)I"⟩
abbrev cX3_pointsTo : ByteArray := prog_1_method_37_code
def yX3_pointsTo : MethodName := ⟨RX3, "pointsTo", "(I)I"⟩
abbrev cX3_runExchange : ByteArray := prog_1_method_38_code
def yX3_runExchange : MethodName := ⟨RX3, "runExchange", "()I"⟩
abbrev cX3_isOutside : ByteArray := prog_1_method_39_code
def yX3_isOutside : MethodName := ⟨RX3, "isOutside", "(III)Z"⟩
abbrev cX3_bit : ByteArray := prog_1_method_40_code
def yX3_bit : MethodName := ⟨RX3, "bit", "(I)I"⟩
abbrev cX3_isIn : ByteArray := prog_1_method_41_code
def yX3_isIn : MethodName := ⟨RX3, "isIn", "(II)Z"⟩
abbrev cX3_courseAt : ByteArray := prog_1_method_42_code
def yX3_courseAt : MethodName := ⟨RX3, "courseAt", "(I)LCourseEnrolment$Course;"⟩
abbrev cX3_studentAt : ByteArray := prog_1_method_43_code
def yX3_studentAt : MethodName := ⟨RX3, "studentAt", "(I)LCourseEnrolment$Student;"⟩
abbrev cX3_foundAt : ByteArray := prog_1_method_44_code
def yX3_foundAt : MethodName := ⟨RX3, "foundAt", "(LCourseEnrolment$Row;I)I"⟩
abbrev cX3_spreadRequired : ByteArray := prog_1_method_45_code
def yX3_spreadRequired : MethodName := ⟨RX3, "spreadRequired", "(LCourseEnrolment$Course;I)V"⟩
abbrev cX3_levelOf : ByteArray := prog_1_method_46_code
def yX3_levelOf : MethodName := ⟨RX3, "levelOf", "(LCourseEnrolment$Course;)I"⟩
abbrev cX3_directOf : ByteArray := prog_1_method_47_code
def yX3_directOf : MethodName := ⟨RX3, "directOf", "(I)I"⟩
abbrev cX3_enrolledIn : ByteArray := prog_1_method_48_code
def yX3_enrolledIn : MethodName := ⟨RX3, "enrolledIn", "(LCourseEnrolment$Course;)I"⟩
abbrev cX3_takenSeats : ByteArray := prog_1_method_49_code
def yX3_takenSeats : MethodName := ⟨RX3, "takenSeats", "(LCourseEnrolment$Course;)I"⟩
abbrev cX3_freeIn : ByteArray := prog_1_method_50_code
def yX3_freeIn : MethodName := ⟨RX3, "freeIn", "(LCourseEnrolment$Course;)I"⟩
abbrev cX3_creditsOf : ByteArray := prog_1_method_51_code
def yX3_creditsOf : MethodName := ⟨RX3, "creditsOf", "(I)I"⟩
abbrev cX3_hoursOf : ByteArray := prog_1_method_52_code
def yX3_hoursOf : MethodName := ⟨RX3, "hoursOf", "(I)I"⟩
abbrev cX3_obstacleFor : ByteArray := prog_1_method_53_code
def yX3_obstacleFor : MethodName := ⟨RX3, "obstacleFor", "(LCourseEnrolment$Student;LCourseEnrolment$Course;I)I"⟩
abbrev cX3_enrol : ByteArray := prog_1_method_54_code
def yX3_enrol : MethodName := ⟨RX3, "enrol", "(LCourseEnrolment$Student;LCourseEnrolment$Course;)V"⟩
abbrev cX3_endEnrolment : ByteArray := prog_1_method_55_code
def yX3_endEnrolment : MethodName := ⟨RX3, "endEnrolment", "(LCourseEnrolment$Student;LCourseEnrolment$Course;)V"⟩
abbrev cX3_makeOffers : ByteArray := prog_1_method_56_code
def yX3_makeOffers : MethodName := ⟨RX3, "makeOffers", "()V"⟩
abbrev cX3_makeOffersFor : ByteArray := prog_1_method_57_code
def yX3_makeOffersFor : MethodName := ⟨RX3, "makeOffersFor", "(LCourseEnrolment$Course;)V"⟩
abbrev cX3_daysLeft : ByteArray := prog_1_method_58_code
def yX3_daysLeft : MethodName := ⟨RX3, "daysLeft", "(LCourseEnrolment$Course;I)I"⟩
abbrev cX3_endOldOffers : ByteArray := prog_1_method_59_code
def yX3_endOldOffers : MethodName := ⟨RX3, "endOldOffers", "()I"⟩
abbrev cX3_drawNumbers : ByteArray := prog_1_method_60_code
def yX3_drawNumbers : MethodName := ⟨RX3, "drawNumbers", "(I)V"⟩
abbrev cX3_turnOf : ByteArray := prog_1_method_61_code
def yX3_turnOf : MethodName := ⟨RX3, "turnOf", "(LCourseEnrolment$Student;)I"⟩
abbrev cX3_orderTurns : ByteArray := prog_1_method_62_code
def yX3_orderTurns : MethodName := ⟨RX3, "orderTurns", "()V"⟩
abbrev cX3_takeTurn : ByteArray := prog_1_method_63_code
def yX3_takeTurn : MethodName := ⟨RX3, "takeTurn", "(LCourseEnrolment$Student;)Z"⟩
abbrev cX3_participants : ByteArray := prog_1_method_64_code
def yX3_participants : MethodName := ⟨RX3, "participants", "()I"⟩
abbrev cX3_isAcceptable : ByteArray := prog_1_method_65_code
def yX3_isAcceptable : MethodName := ⟨RX3, "isAcceptable", "(LCourseEnrolment$Student;LCourseEnrolment$Course;)Z"⟩
abbrev cX3_firstWhoPutUp : ByteArray := prog_1_method_66_code
def yX3_firstWhoPutUp : MethodName := ⟨RX3, "firstWhoPutUp", "(II)I"⟩
abbrev cX3_targetOf : ByteArray := prog_1_method_67_code
def yX3_targetOf : MethodName := ⟨RX3, "targetOf", "(LCourseEnrolment$Student;I)I"⟩
abbrev cX3_pointAll : ByteArray := prog_1_method_68_code
def yX3_pointAll : MethodName := ⟨RX3, "pointAll", "(I)V"⟩
abbrev cX3_isOnCircle : ByteArray := prog_1_method_69_code
def yX3_isOnCircle : MethodName := ⟨RX3, "isOnCircle", "(LCourseEnrolment$Student;)Z"⟩
abbrev cX3_onCircles : ByteArray := prog_1_method_70_code
def yX3_onCircles : MethodName := ⟨RX3, "onCircles", "(I)I"⟩
abbrev cX3_movePlaces : ByteArray := prog_1_method_71_code
def yX3_movePlaces : MethodName := ⟨RX3, "movePlaces", "(I)I"⟩
def RX4 : String := "CourseEnrolmentModel"
def TX4 : u_T := fun k => match k with
  | 0 => ("CourseEnrolmentModel", "courseMany", "I", false)
  | 1 => ("CourseEnrolmentModel", "seats", "[I", true)
  | 2 => ("CourseEnrolmentModel", "worths", "[I", true)
  | 3 => ("CourseEnrolmentModel", "hours", "[I", true)
  | 4 => ("CourseEnrolmentModel", "directs", "[I", true)
  | 5 => ("CourseEnrolmentModel", "studentMany", "I", false)
  | 6 => ("CourseEnrolmentModel", "bands", "[I", true)
  | 7 => ("CourseEnrolmentModel", "limits", "[I", true)
  | 8 => ("CourseEnrolmentModel", "passed", "[I", true)
  | 9 => ("CourseEnrolmentModel", "taken", "[I", true)
  | 10 => ("CourseEnrolmentModel", "wishMany", "[I", true)
  | 11 => ("CourseEnrolmentModel", "wished", "[I", true)
  | 12 => ("CourseEnrolmentModel", "ups", "[I", true)
  | 13 => ("CourseEnrolmentModel", "lots", "[I", true)
  | 14 => ("CourseEnrolmentModel", "waitMany", "[I", true)
  | 15 => ("CourseEnrolmentModel", "waitList", "[I", true)
  | 16 => ("CourseEnrolmentModel", "offered", "[I", true)
  | 17 => ("CourseEnrolmentModel", "today", "I", false)
  | 18 => ("CourseEnrolmentModel", "thrown", "I", false)
  | 19 => ("CourseEnrolmentModel", "levels", "[I", true)
  | 20 => ("CourseEnrolmentModel", "pointers", "[I", true)
  | _ => ("CourseEnrolmentModel", "gets", "[I", true)
def tyX4 : Nat → FieldType := fun k => match k with
  | 0 => .int
  | 1 => .array .int
  | 2 => .array .int
  | 3 => .array .int
  | 4 => .array .int
  | 5 => .int
  | 6 => .array .int
  | 7 => .array .int
  | 8 => .array .int
  | 9 => .array .int
  | 10 => .array .int
  | 11 => .array .int
  | 12 => .array .int
  | 13 => .array .int
  | 14 => .array .int
  | 15 => .array .int
  | 16 => .array .int
  | 17 => .int
  | 18 => .int
  | 19 => .array .int
  | 20 => .array .int
  | _ => .array .int
abbrev wsX40 : List Cond := u_ws RX4 TX4 22
theorem nmX4 : ∀ a, a < 22 → ∀ b, b < 22 → a ≠ b → (TX4 a).2.1 ≠ (TX4 b).2.1 := by decide +kernel
theorem tyX4_ok : ∀ k, k < 22 → parseFieldDescriptor (TX4 k).2.2.1 = some (tyX4 k) := by decide +kernel
abbrev cX4_init : ByteArray := prog_6_method_1_code
def yX4_init : MethodName := ⟨RX4, "<init>", "()V"⟩
abbrev cX4_thrown : ByteArray := prog_6_method_2_code
def yX4_thrown : MethodName := ⟨RX4, "thrown", "()I"⟩
abbrev cX4_has : ByteArray := prog_6_method_3_code
def yX4_has : MethodName := ⟨RX4, "has", "(II)Z"⟩
abbrev cX4_size : ByteArray := prog_6_method_4_code
def yX4_size : MethodName := ⟨RX4, "size", "(I)I"⟩
abbrev cX4_isCourse : ByteArray := prog_6_method_5_code
def yX4_isCourse : MethodName := ⟨RX4, "isCourse", "(I)Z"⟩
abbrev cX4_isStudent : ByteArray := prog_6_method_6_code
def yX4_isStudent : MethodName := ⟨RX4, "isStudent", "(I)Z"⟩
abbrev cX4_areBoth : ByteArray := prog_6_method_7_code
def yX4_areBoth : MethodName := ⟨RX4, "areBoth", "(II)Z"⟩
abbrev cX4_requiredBy : ByteArray := prog_6_method_8_code
def yX4_requiredBy : MethodName := ⟨RX4, "requiredBy", "(I)I"⟩
abbrev cX4_worthOf : ByteArray := prog_6_method_9_code
def yX4_worthOf : MethodName := ⟨RX4, "worthOf", "(I)I"⟩
abbrev cX4_obstacleWith : ByteArray := prog_6_method_10_code
def yX4_obstacleWith : MethodName := ⟨RX4, "obstacleWith", "(III)I"⟩
abbrev cX4_inCourse : ByteArray := prog_6_method_11_code
def yX4_inCourse : MethodName := ⟨RX4, "inCourse", "(I)I"⟩
abbrev cX4_hasOffer : ByteArray := prog_6_method_12_code
def yX4_hasOffer : MethodName := ⟨RX4, "hasOffer", "(II)Z"⟩
abbrev cX4_free : ByteArray := prog_6_method_13_code
def yX4_free : MethodName := ⟨RX4, "free", "(I)I"⟩
abbrev cX4_waitPlace : ByteArray := prog_6_method_14_code
def yX4_waitPlace : MethodName := ⟨RX4, "waitPlace", "(II)I"⟩
abbrev cX4_wishPlace : ByteArray := prog_6_method_15_code
def yX4_wishPlace : MethodName := ⟨RX4, "wishPlace", "(II)I"⟩
abbrev cX4_leavesList : ByteArray := prog_6_method_16_code
def yX4_leavesList : MethodName := ⟨RX4, "leavesList", "(II)V"⟩
abbrev cX4_dropsWish : ByteArray := prog_6_method_17_code
def yX4_dropsWish : MethodName := ⟨RX4, "dropsWish", "(II)V"⟩
abbrev cX4_enrols : ByteArray := prog_6_method_18_code
def yX4_enrols : MethodName := ⟨RX4, "enrols", "(II)V"⟩
abbrev cX4_gives : ByteArray := prog_6_method_19_code
def yX4_gives : MethodName := ⟨RX4, "gives", "(II)V"⟩
abbrev cX4_offers : ByteArray := prog_6_method_20_code
def yX4_offers : MethodName := ⟨RX4, "offers", "()V"⟩
abbrev cX4_addCourse : ByteArray := prog_6_method_21_code
def yX4_addCourse : MethodName := ⟨RX4, "addCourse", "(III)I"⟩
abbrev cX4_setSeats : ByteArray := prog_6_method_22_code
def yX4_setSeats : MethodName := ⟨RX4, "setSeats", "(II)I"⟩
abbrev cX4_addPrerequisite : ByteArray := prog_6_method_23_code
def yX4_addPrerequisite : MethodName := ⟨RX4, "addPrerequisite", "(II)I"⟩
abbrev cX4_requires : ByteArray := prog_6_method_24_code
def yX4_requires : MethodName := ⟨RX4, "requires", "(II)Z"⟩
abbrev cX4_level : ByteArray := prog_6_method_25_code
def yX4_level : MethodName := ⟨RX4, "level", "(I)I"⟩
abbrev cX4_courses : ByteArray := prog_6_method_26_code
def yX4_courses : MethodName := ⟨RX4, "courses", "()I"⟩
abbrev cX4_enrolled : ByteArray := prog_6_method_27_code
def yX4_enrolled : MethodName := ⟨RX4, "enrolled", "(I)I"⟩
abbrev cX4_freeSeats : ByteArray := prog_6_method_28_code
def yX4_freeSeats : MethodName := ⟨RX4, "freeSeats", "(I)I"⟩
abbrev cX4_addStudent : ByteArray := prog_6_method_29_code
def yX4_addStudent : MethodName := ⟨RX4, "addStudent", "(II)I"⟩
abbrev cX4_pass : ByteArray := prog_6_method_30_code
def yX4_pass : MethodName := ⟨RX4, "pass", "(II)I"⟩
abbrev cX4_students : ByteArray := prog_6_method_31_code
def yX4_students : MethodName := ⟨RX4, "students", "()I"⟩
abbrev cX4_hasPassed : ByteArray := prog_6_method_32_code
def yX4_hasPassed : MethodName := ⟨RX4, "hasPassed", "(II)Z"⟩
abbrev cX4_isEnrolled : ByteArray := prog_6_method_33_code
def yX4_isEnrolled : MethodName := ⟨RX4, "isEnrolled", "(II)Z"⟩
abbrev cX4_credits : ByteArray := prog_6_method_34_code
def yX4_credits : MethodName := ⟨RX4, "credits", "(I)I"⟩
abbrev cX4_missing : ByteArray := prog_6_method_35_code
def yX4_missing : MethodName := ⟨RX4, "missing", "(II)I"⟩
abbrev cX4_obstacle : ByteArray := prog_6_method_36_code
def yX4_obstacle : MethodName := ⟨RX4, "obstacle", "(II)I"⟩
abbrev cX4_wish : ByteArray := prog_6_method_37_code
def yX4_wish : MethodName := ⟨RX4, "wish", "(II)I"⟩
abbrev cX4_dropWish : ByteArray := prog_6_method_38_code
def yX4_dropWish : MethodName := ⟨RX4, "dropWish", "(II)I"⟩
abbrev cX4_wishes : ByteArray := prog_6_method_39_code
def yX4_wishes : MethodName := ⟨RX4, "wishes", "(I)I"⟩
abbrev cX4_wishAt : ByteArray := prog_6_method_40_code
def yX4_wishAt : MethodName := ⟨RX4, "wishAt", "(II)I"⟩
abbrev cX4_request : ByteArray := prog_6_method_41_code
def yX4_request : MethodName := ⟨RX4, "request", "(II)I"⟩
abbrev cX4_drop : ByteArray := prog_6_method_42_code
def yX4_drop : MethodName := ⟨RX4, "drop", "(II)I"⟩
abbrev cX4_change : ByteArray := prog_6_method_43_code
def yX4_change : MethodName := ⟨RX4, "change", "(III)I"⟩
abbrev cX4_accept : ByteArray := prog_6_method_44_code
def yX4_accept : MethodName := ⟨RX4, "accept", "(II)I"⟩
abbrev cX4_leave : ByteArray := prog_6_method_45_code
def yX4_leave : MethodName := ⟨RX4, "leave", "(II)Z"⟩
abbrev cX4_expires : ByteArray := prog_6_method_46_code
def yX4_expires : MethodName := ⟨RX4, "expires", "()I"⟩
abbrev cX4_advance : ByteArray := prog_6_method_47_code
def yX4_advance : MethodName := ⟨RX4, "advance", "(I)I"⟩
abbrev cX4_day : ByteArray := prog_6_method_48_code
def yX4_day : MethodName := ⟨RX4, "day", "()I"⟩
abbrev cX4_waiting : ByteArray := prog_6_method_49_code
def yX4_waiting : MethodName := ⟨RX4, "waiting", "(I)I"⟩
abbrev cX4_waitingAt : ByteArray := prog_6_method_50_code
def yX4_waitingAt : MethodName := ⟨RX4, "waitingAt", "(II)I"⟩
abbrev cX4_offerDays : ByteArray := prog_6_method_51_code
def yX4_offerDays : MethodName := ⟨RX4, "offerDays", "(II)I"⟩
abbrev cX4_isAhead : ByteArray := prog_6_method_52_code
def yX4_isAhead : MethodName := ⟨RX4, "isAhead", "(II)Z"⟩
abbrev cX4_getsOne : ByteArray := prog_6_method_53_code
def yX4_getsOne : MethodName := ⟨RX4, "getsOne", "(I)Z"⟩
abbrev cX4_runLottery : ByteArray := prog_6_method_54_code
def yX4_runLottery : MethodName := ⟨RX4, "runLottery", "(I)I"⟩
abbrev cX4_lotteryNumber : ByteArray := prog_6_method_55_code
def yX4_lotteryNumber : MethodName := ⟨RX4, "lotteryNumber", "(I)I"⟩
abbrev cX4_putUp : ByteArray := prog_6_method_56_code
def yX4_putUp : MethodName := ⟨RX4, "putUp", "(II)I"⟩
abbrev cX4_withdraw : ByteArray := prog_6_method_57_code
def yX4_withdraw : MethodName := ⟨RX4, "withdraw", "(I)I"⟩
abbrev cX4_placeUp : ByteArray := prog_6_method_58_code
def yX4_placeUp : MethodName := ⟨RX4, "placeUp", "(I)I"⟩
abbrev cX4_participants : ByteArray := prog_6_method_59_code
def yX4_participants : MethodName := ⟨RX4, "participants", "()I"⟩
abbrev cX4_pointer : ByteArray := prog_6_method_60_code
def yX4_pointer : MethodName := ⟨RX4, "pointer", "(II)I"⟩
abbrev cX4_pointsTo : ByteArray := prog_6_method_61_code
def yX4_pointsTo : MethodName := ⟨RX4, "pointsTo", "(I)I"⟩
abbrev cX4_isOnCircle : ByteArray := prog_6_method_62_code
def yX4_isOnCircle : MethodName := ⟨RX4, "isOnCircle", "(I)Z"⟩
abbrev cX4_circles : ByteArray := prog_6_method_63_code
def yX4_circles : MethodName := ⟨RX4, "circles", "(I)I"⟩
abbrev cX4_runExchange : ByteArray := prog_6_method_64_code
def yX4_runExchange : MethodName := ⟨RX4, "runExchange", "()I"⟩
def RJ6 : String := "java/lang/Integer"
abbrev cJ6_bitCount_0f7a4 : ByteArray := prog_11_method_49_code
def yJ6_bitCount_0f7a4 : MethodName := ⟨RJ6, "bitCount", "(I)I"⟩
def RL : String := "CourseEnrolmentLaw"
abbrev cL_addCourse : ByteArray := method_3_code
def yL_addCourse : MethodName := ⟨RL, "addCourse", "(LCourseEnrolment;III[J)I"⟩
abbrev cL_setSeats : ByteArray := method_4_code
def yL_setSeats : MethodName := ⟨RL, "setSeats", "(LCourseEnrolment;II[J)I"⟩
abbrev cL_addPrerequisite : ByteArray := method_5_code
def yL_addPrerequisite : MethodName := ⟨RL, "addPrerequisite", "(LCourseEnrolment;II[J)I"⟩
abbrev cL_requires : ByteArray := method_6_code
def yL_requires : MethodName := ⟨RL, "requires", "(LCourseEnrolment;II[J)I"⟩
abbrev cL_level : ByteArray := method_7_code
def yL_level : MethodName := ⟨RL, "level", "(LCourseEnrolment;I[J)I"⟩
abbrev cL_enrolled : ByteArray := method_8_code
def yL_enrolled : MethodName := ⟨RL, "enrolled", "(LCourseEnrolment;I[J)I"⟩
abbrev cL_freeSeats : ByteArray := method_9_code
def yL_freeSeats : MethodName := ⟨RL, "freeSeats", "(LCourseEnrolment;I[J)I"⟩
abbrev cL_addStudent : ByteArray := method_10_code
def yL_addStudent : MethodName := ⟨RL, "addStudent", "(LCourseEnrolment;II[J)I"⟩
abbrev cL_pass : ByteArray := method_11_code
def yL_pass : MethodName := ⟨RL, "pass", "(LCourseEnrolment;II[J)I"⟩
abbrev cL_hasPassed : ByteArray := method_12_code
def yL_hasPassed : MethodName := ⟨RL, "hasPassed", "(LCourseEnrolment;II[J)I"⟩
abbrev cL_isEnrolled : ByteArray := method_13_code
def yL_isEnrolled : MethodName := ⟨RL, "isEnrolled", "(LCourseEnrolment;II[J)I"⟩
abbrev cL_credits : ByteArray := method_14_code
def yL_credits : MethodName := ⟨RL, "credits", "(LCourseEnrolment;I[J)I"⟩
abbrev cL_missing : ByteArray := method_15_code
def yL_missing : MethodName := ⟨RL, "missing", "(LCourseEnrolment;II[J)I"⟩
abbrev cL_obstacle : ByteArray := method_16_code
def yL_obstacle : MethodName := ⟨RL, "obstacle", "(LCourseEnrolment;II[J)I"⟩
abbrev cL_wish : ByteArray := method_17_code
def yL_wish : MethodName := ⟨RL, "wish", "(LCourseEnrolment;II[J)I"⟩
abbrev cL_dropWish : ByteArray := method_18_code
def yL_dropWish : MethodName := ⟨RL, "dropWish", "(LCourseEnrolment;II[J)I"⟩
abbrev cL_wishes : ByteArray := method_19_code
def yL_wishes : MethodName := ⟨RL, "wishes", "(LCourseEnrolment;I[J)I"⟩
abbrev cL_wishAt : ByteArray := method_20_code
def yL_wishAt : MethodName := ⟨RL, "wishAt", "(LCourseEnrolment;II[J)I"⟩
abbrev cL_request : ByteArray := method_21_code
def yL_request : MethodName := ⟨RL, "request", "(LCourseEnrolment;II[J)I"⟩
abbrev cL_drop : ByteArray := method_22_code
def yL_drop : MethodName := ⟨RL, "drop", "(LCourseEnrolment;II[J)I"⟩
abbrev cL_change : ByteArray := method_23_code
def yL_change : MethodName := ⟨RL, "change", "(LCourseEnrolment;III[J)I"⟩
abbrev cL_accept : ByteArray := method_24_code
def yL_accept : MethodName := ⟨RL, "accept", "(LCourseEnrolment;II[J)I"⟩
abbrev cL_leave : ByteArray := method_25_code
def yL_leave : MethodName := ⟨RL, "leave", "(LCourseEnrolment;II[J)I"⟩
abbrev cL_advance : ByteArray := method_26_code
def yL_advance : MethodName := ⟨RL, "advance", "(LCourseEnrolment;I[J)I"⟩
abbrev cL_waiting : ByteArray := method_27_code
def yL_waiting : MethodName := ⟨RL, "waiting", "(LCourseEnrolment;I[J)I"⟩
abbrev cL_waitingAt : ByteArray := method_28_code
def yL_waitingAt : MethodName := ⟨RL, "waitingAt", "(LCourseEnrolment;II[J)I"⟩
abbrev cL_offerDays : ByteArray := method_29_code
def yL_offerDays : MethodName := ⟨RL, "offerDays", "(LCourseEnrolment;II[J)I"⟩
abbrev cL_runLottery : ByteArray := method_30_code
def yL_runLottery : MethodName := ⟨RL, "runLottery", "(LCourseEnrolment;I[J)I"⟩
abbrev cL_lotteryNumber : ByteArray := method_31_code
def yL_lotteryNumber : MethodName := ⟨RL, "lotteryNumber", "(LCourseEnrolment;I[J)I"⟩
abbrev cL_putUp : ByteArray := method_32_code
def yL_putUp : MethodName := ⟨RL, "putUp", "(LCourseEnrolment;II[J)I"⟩
abbrev cL_withdraw : ByteArray := method_33_code
def yL_withdraw : MethodName := ⟨RL, "withdraw", "(LCourseEnrolment;I[J)I"⟩
abbrev cL_placeUp : ByteArray := method_34_code
def yL_placeUp : MethodName := ⟨RL, "placeUp", "(LCourseEnrolment;I[J)I"⟩
abbrev cL_pointsTo : ByteArray := method_35_code
def yL_pointsTo : MethodName := ⟨RL, "pointsTo", "(LCourseEnrolment;I[J)I"⟩
abbrev cL_law : ByteArray := code
def yL_law : MethodName := ⟨RL, "law", "([I)Z"⟩
abbrev vwCl : List vw_C := [(RX0, TX0, 8), (RX1, TX1, 2), (RX2, TX2, 10), (RX3, TX3, 6), (RX4, TX4, 22)]
end
section
theorem dX0_init_0 : decode cX0_init 0 = .ok (.aload_n 0, 1) := by decide +kernel
theorem dX0_init_1 : decode cX0_init 1 = .ok (.invokespecial 3, 3) := by decide +kernel
theorem dX0_init_4 : decode cX0_init 4 = .ok (.aload_n 0, 1) := by decide +kernel
theorem dX0_init_5 : decode cX0_init 5 = .ok (.iload_n 1, 1) := by decide +kernel
theorem dX0_init_6 : decode cX0_init 6 = .ok (.putfield 9, 3) := by decide +kernel
theorem dX0_init_9 : decode cX0_init 9 = .ok (.aload_n 0, 1) := by decide +kernel
theorem dX0_init_10 : decode cX0_init 10 = .ok (.new 15, 3) := by decide +kernel
theorem dX0_init_13 : decode cX0_init 13 = .ok (.dup, 1) := by decide +kernel
theorem dX0_init_14 : decode cX0_init 14 = .ok (.bipush 16, 2) := by decide +kernel
theorem dX0_init_16 : decode cX0_init 16 = .ok (.newarray .int, 2) := by decide +kernel
theorem dX0_init_18 : decode cX0_init 18 = .ok (.invokespecial 17, 3) := by decide +kernel
theorem dX0_init_21 : decode cX0_init 21 = .ok (.putfield 20, 3) := by decide +kernel
theorem dX0_init_24 : decode cX0_init 24 = .ok (.aload_n 0, 1) := by decide +kernel
theorem dX0_init_25 : decode cX0_init 25 = .ok (.bipush 16, 2) := by decide +kernel
theorem dX0_init_27 : decode cX0_init 27 = .ok (.newarray .int, 2) := by decide +kernel
theorem dX0_init_29 : decode cX0_init 29 = .ok (.putfield 24, 3) := by decide +kernel
theorem dX0_init_32 : decode cX0_init 32 = .ok (.iconst 0, 1) := by decide +kernel
theorem dX0_init_33 : decode cX0_init 33 = .ok (.istore_n 2, 1) := by decide +kernel
theorem dX0_init_34 : decode cX0_init 34 = .ok (.iload_n 2, 1) := by decide +kernel
theorem dX0_init_35 : decode cX0_init 35 = .ok (.aload_n 0, 1) := by decide +kernel
theorem dX0_init_36 : decode cX0_init 36 = .ok (.getfield 24, 3) := by decide +kernel
theorem dX0_init_39 : decode cX0_init 39 = .ok (.arraylength, 1) := by decide +kernel
theorem dX0_init_40 : decode cX0_init 40 = .ok (.if_icmp .ge 16, 3) := by decide +kernel
theorem dX0_init_43 : decode cX0_init 43 = .ok (.aload_n 0, 1) := by decide +kernel
theorem dX0_init_44 : decode cX0_init 44 = .ok (.getfield 24, 3) := by decide +kernel
theorem dX0_init_47 : decode cX0_init 47 = .ok (.iload_n 2, 1) := by decide +kernel
theorem dX0_init_48 : decode cX0_init 48 = .ok (.iconst (-1), 1) := by decide +kernel
theorem dX0_init_49 : decode cX0_init 49 = .ok (.iastore, 1) := by decide +kernel
theorem dX0_init_50 : decode cX0_init 50 = .ok (.iinc 2 1, 3) := by decide +kernel
theorem dX0_init_53 : decode cX0_init 53 = .ok (.goto (-19), 3) := by decide +kernel
theorem dX0_init_56 : decode cX0_init 56 = .ok (.return_, 1) := by decide +kernel
theorem dX0_hasOfferFor_0 : decode cX0_hasOfferFor 0 = .ok (.aload_n 0, 1) := by decide +kernel
theorem dX0_hasOfferFor_1 : decode cX0_hasOfferFor 1 = .ok (.getfield 24, 3) := by decide +kernel
theorem dX0_hasOfferFor_4 : decode cX0_hasOfferFor 4 = .ok (.iload_n 1, 1) := by decide +kernel
theorem dX0_hasOfferFor_5 : decode cX0_hasOfferFor 5 = .ok (.iaload, 1) := by decide +kernel
theorem dX0_hasOfferFor_6 : decode cX0_hasOfferFor 6 = .ok (.iconst (-1), 1) := by decide +kernel
theorem dX0_hasOfferFor_7 : decode cX0_hasOfferFor 7 = .ok (.if_icmp .eq 7, 3) := by decide +kernel
theorem dX0_hasOfferFor_10 : decode cX0_hasOfferFor 10 = .ok (.iconst 1, 1) := by decide +kernel
theorem dX0_hasOfferFor_11 : decode cX0_hasOfferFor 11 = .ok (.goto 4, 3) := by decide +kernel
theorem dX0_hasOfferFor_14 : decode cX0_hasOfferFor 14 = .ok (.iconst 0, 1) := by decide +kernel
theorem dX0_hasOfferFor_15 : decode cX0_hasOfferFor 15 = .ok (.ireturn, 1) := by decide +kernel
theorem dX0_offers_0 : decode cX0_offers 0 = .ok (.iconst 0, 1) := by decide +kernel
theorem dX0_offers_1 : decode cX0_offers 1 = .ok (.istore_n 1, 1) := by decide +kernel
theorem dX0_offers_2 : decode cX0_offers 2 = .ok (.aload_n 0, 1) := by decide +kernel
theorem dX0_offers_3 : decode cX0_offers 3 = .ok (.getfield 24, 3) := by decide +kernel
theorem dX0_offers_6 : decode cX0_offers 6 = .ok (.astore_n 2, 1) := by decide +kernel
theorem dX0_offers_7 : decode cX0_offers 7 = .ok (.aload_n 2, 1) := by decide +kernel
theorem dX0_offers_8 : decode cX0_offers 8 = .ok (.arraylength, 1) := by decide +kernel
theorem dX0_offers_9 : decode cX0_offers 9 = .ok (.istore_n 3, 1) := by decide +kernel
theorem dX0_offers_10 : decode cX0_offers 10 = .ok (.iconst 0, 1) := by decide +kernel
theorem dX0_offers_11 : decode cX0_offers 11 = .ok (.istore 4, 2) := by decide +kernel
theorem dX0_offers_13 : decode cX0_offers 13 = .ok (.iload 4, 2) := by decide +kernel
theorem dX0_offers_15 : decode cX0_offers 15 = .ok (.iload_n 3, 1) := by decide +kernel
theorem dX0_offers_16 : decode cX0_offers 16 = .ok (.if_icmp .ge 24, 3) := by decide +kernel
theorem dX0_offers_19 : decode cX0_offers 19 = .ok (.aload_n 2, 1) := by decide +kernel
theorem dX0_offers_20 : decode cX0_offers 20 = .ok (.iload 4, 2) := by decide +kernel
theorem dX0_offers_22 : decode cX0_offers 22 = .ok (.iaload, 1) := by decide +kernel
theorem dX0_offers_23 : decode cX0_offers 23 = .ok (.istore 5, 2) := by decide +kernel
theorem dX0_offers_25 : decode cX0_offers 25 = .ok (.iload 5, 2) := by decide +kernel
theorem dX0_offers_27 : decode cX0_offers 27 = .ok (.iconst (-1), 1) := by decide +kernel
theorem dX0_offers_28 : decode cX0_offers 28 = .ok (.if_icmp .eq 6, 3) := by decide +kernel
theorem dX0_offers_31 : decode cX0_offers 31 = .ok (.iinc 1 1, 3) := by decide +kernel
theorem dX0_offers_34 : decode cX0_offers 34 = .ok (.iinc 4 1, 3) := by decide +kernel
theorem dX0_offers_37 : decode cX0_offers 37 = .ok (.goto (-24), 3) := by decide +kernel
theorem dX0_offers_40 : decode cX0_offers 40 = .ok (.iload_n 1, 1) := by decide +kernel
theorem dX0_offers_41 : decode cX0_offers 41 = .ok (.ireturn, 1) := by decide +kernel
theorem dX0_takeOff_0 : decode cX0_takeOff 0 = .ok (.aload_n 0, 1) := by decide +kernel
theorem dX0_takeOff_1 : decode cX0_takeOff 1 = .ok (.getfield 20, 3) := by decide +kernel
theorem dX0_takeOff_4 : decode cX0_takeOff 4 = .ok (.iload_n 1, 1) := by decide +kernel
theorem dX0_takeOff_5 : decode cX0_takeOff 5 = .ok (.invokevirtual 28, 3) := by decide +kernel
theorem dX0_takeOff_8 : decode cX0_takeOff 8 = .ok (.aload_n 0, 1) := by decide +kernel
theorem dX0_takeOff_9 : decode cX0_takeOff 9 = .ok (.getfield 24, 3) := by decide +kernel
theorem dX0_takeOff_12 : decode cX0_takeOff 12 = .ok (.iload_n 1, 1) := by decide +kernel
theorem dX0_takeOff_13 : decode cX0_takeOff 13 = .ok (.iconst (-1), 1) := by decide +kernel
theorem dX0_takeOff_14 : decode cX0_takeOff 14 = .ok (.iastore, 1) := by decide +kernel
theorem dX0_takeOff_15 : decode cX0_takeOff 15 = .ok (.return_, 1) := by decide +kernel
theorem dX1_init_0 : decode cX1_init 0 = .ok (.aload_n 0, 1) := by decide +kernel
theorem dX1_init_1 : decode cX1_init 1 = .ok (.invokespecial 3, 3) := by decide +kernel
theorem dX1_init_4 : decode cX1_init 4 = .ok (.aload_n 0, 1) := by decide +kernel
theorem dX1_init_5 : decode cX1_init 5 = .ok (.aload_n 1, 1) := by decide +kernel
theorem dX1_init_6 : decode cX1_init 6 = .ok (.putfield 9, 3) := by decide +kernel
theorem dX1_init_9 : decode cX1_init 9 = .ok (.aload_n 0, 1) := by decide +kernel
theorem dX1_init_10 : decode cX1_init 10 = .ok (.iconst 0, 1) := by decide +kernel
theorem dX1_init_11 : decode cX1_init 11 = .ok (.putfield 15, 3) := by decide +kernel
theorem dX1_init_14 : decode cX1_init 14 = .ok (.return_, 1) := by decide +kernel
theorem dX1_size_0 : decode cX1_size 0 = .ok (.aload_n 0, 1) := by decide +kernel
theorem dX1_size_1 : decode cX1_size 1 = .ok (.getfield 15, 3) := by decide +kernel
theorem dX1_size_4 : decode cX1_size 4 = .ok (.ireturn, 1) := by decide +kernel
theorem dX1_at_0 : decode cX1_at 0 = .ok (.iload_n 1, 1) := by decide +kernel
theorem dX1_at_1 : decode cX1_at 1 = .ok (.ifCond .lt 11, 3) := by decide +kernel
theorem dX1_at_4 : decode cX1_at 4 = .ok (.iload_n 1, 1) := by decide +kernel
theorem dX1_at_5 : decode cX1_at 5 = .ok (.aload_n 0, 1) := by decide +kernel
theorem dX1_at_6 : decode cX1_at 6 = .ok (.getfield 15, 3) := by decide +kernel
theorem dX1_at_9 : decode cX1_at 9 = .ok (.if_icmp .lt 7, 3) := by decide +kernel
theorem dX1_at_12 : decode cX1_at 12 = .ok (.iconst (-1), 1) := by decide +kernel
theorem dX1_at_13 : decode cX1_at 13 = .ok (.goto 9, 3) := by decide +kernel
theorem dX1_at_16 : decode cX1_at 16 = .ok (.aload_n 0, 1) := by decide +kernel
theorem dX1_at_17 : decode cX1_at 17 = .ok (.getfield 9, 3) := by decide +kernel
theorem dX1_at_20 : decode cX1_at 20 = .ok (.iload_n 1, 1) := by decide +kernel
theorem dX1_at_21 : decode cX1_at 21 = .ok (.iaload, 1) := by decide +kernel
theorem dX1_at_22 : decode cX1_at 22 = .ok (.ireturn, 1) := by decide +kernel
theorem dX1_placeOf_0 : decode cX1_placeOf 0 = .ok (.iconst 0, 1) := by decide +kernel
theorem dX1_placeOf_1 : decode cX1_placeOf 1 = .ok (.istore_n 2, 1) := by decide +kernel
theorem dX1_placeOf_2 : decode cX1_placeOf 2 = .ok (.iload_n 2, 1) := by decide +kernel
theorem dX1_placeOf_3 : decode cX1_placeOf 3 = .ok (.aload_n 0, 1) := by decide +kernel
theorem dX1_placeOf_4 : decode cX1_placeOf 4 = .ok (.getfield 15, 3) := by decide +kernel
theorem dX1_placeOf_7 : decode cX1_placeOf 7 = .ok (.if_icmp .ge 21, 3) := by decide +kernel
theorem dX1_placeOf_10 : decode cX1_placeOf 10 = .ok (.aload_n 0, 1) := by decide +kernel
theorem dX1_placeOf_11 : decode cX1_placeOf 11 = .ok (.getfield 9, 3) := by decide +kernel
theorem dX1_placeOf_14 : decode cX1_placeOf 14 = .ok (.iload_n 2, 1) := by decide +kernel
theorem dX1_placeOf_15 : decode cX1_placeOf 15 = .ok (.iaload, 1) := by decide +kernel
theorem dX1_placeOf_16 : decode cX1_placeOf 16 = .ok (.iload_n 1, 1) := by decide +kernel
theorem dX1_placeOf_17 : decode cX1_placeOf 17 = .ok (.if_icmp .ne 5, 3) := by decide +kernel
theorem dX1_placeOf_20 : decode cX1_placeOf 20 = .ok (.iload_n 2, 1) := by decide +kernel
theorem dX1_placeOf_21 : decode cX1_placeOf 21 = .ok (.ireturn, 1) := by decide +kernel
theorem dX1_placeOf_22 : decode cX1_placeOf 22 = .ok (.iinc 2 1, 3) := by decide +kernel
theorem dX1_placeOf_25 : decode cX1_placeOf 25 = .ok (.goto (-23), 3) := by decide +kernel
theorem dX1_placeOf_28 : decode cX1_placeOf 28 = .ok (.iconst (-1), 1) := by decide +kernel
theorem dX1_placeOf_29 : decode cX1_placeOf 29 = .ok (.ireturn, 1) := by decide +kernel
theorem dX1_add_0 : decode cX1_add 0 = .ok (.aload_n 0, 1) := by decide +kernel
theorem dX1_add_1 : decode cX1_add 1 = .ok (.getfield 15, 3) := by decide +kernel
theorem dX1_add_4 : decode cX1_add 4 = .ok (.aload_n 0, 1) := by decide +kernel
theorem dX1_add_5 : decode cX1_add 5 = .ok (.getfield 9, 3) := by decide +kernel
theorem dX1_add_8 : decode cX1_add 8 = .ok (.arraylength, 1) := by decide +kernel
theorem dX1_add_9 : decode cX1_add 9 = .ok (.if_icmp .ge 23, 3) := by decide +kernel
theorem dX1_add_12 : decode cX1_add 12 = .ok (.aload_n 0, 1) := by decide +kernel
theorem dX1_add_13 : decode cX1_add 13 = .ok (.getfield 9, 3) := by decide +kernel
theorem dX1_add_16 : decode cX1_add 16 = .ok (.aload_n 0, 1) := by decide +kernel
theorem dX1_add_17 : decode cX1_add 17 = .ok (.getfield 15, 3) := by decide +kernel
theorem dX1_add_20 : decode cX1_add 20 = .ok (.iload_n 1, 1) := by decide +kernel
theorem dX1_add_21 : decode cX1_add 21 = .ok (.iastore, 1) := by decide +kernel
theorem dX1_add_22 : decode cX1_add 22 = .ok (.aload_n 0, 1) := by decide +kernel
theorem dX1_add_23 : decode cX1_add 23 = .ok (.dup, 1) := by decide +kernel
theorem dX1_add_24 : decode cX1_add 24 = .ok (.getfield 15, 3) := by decide +kernel
theorem dX1_add_27 : decode cX1_add 27 = .ok (.iconst 1, 1) := by decide +kernel
theorem dX1_add_28 : decode cX1_add 28 = .ok (.iadd, 1) := by decide +kernel
theorem dX1_add_29 : decode cX1_add 29 = .ok (.putfield 15, 3) := by decide +kernel
theorem dX1_add_32 : decode cX1_add 32 = .ok (.return_, 1) := by decide +kernel
theorem dX1_remove_0 : decode cX1_remove 0 = .ok (.aload_n 0, 1) := by decide +kernel
theorem dX1_remove_1 : decode cX1_remove 1 = .ok (.iload_n 1, 1) := by decide +kernel
theorem dX1_remove_2 : decode cX1_remove 2 = .ok (.invokevirtual 19, 3) := by decide +kernel
theorem dX1_remove_5 : decode cX1_remove 5 = .ok (.istore_n 2, 1) := by decide +kernel
theorem dX1_remove_6 : decode cX1_remove 6 = .ok (.iload_n 2, 1) := by decide +kernel
theorem dX1_remove_7 : decode cX1_remove 7 = .ok (.iconst (-1), 1) := by decide +kernel
theorem dX1_remove_8 : decode cX1_remove 8 = .ok (.if_icmp .eq 45, 3) := by decide +kernel
theorem dX1_remove_11 : decode cX1_remove 11 = .ok (.iload_n 2, 1) := by decide +kernel
theorem dX1_remove_12 : decode cX1_remove 12 = .ok (.iconst 1, 1) := by decide +kernel
theorem dX1_remove_13 : decode cX1_remove 13 = .ok (.iadd, 1) := by decide +kernel
theorem dX1_remove_14 : decode cX1_remove 14 = .ok (.istore_n 3, 1) := by decide +kernel
theorem dX1_remove_15 : decode cX1_remove 15 = .ok (.iload_n 3, 1) := by decide +kernel
theorem dX1_remove_16 : decode cX1_remove 16 = .ok (.aload_n 0, 1) := by decide +kernel
theorem dX1_remove_17 : decode cX1_remove 17 = .ok (.getfield 15, 3) := by decide +kernel
theorem dX1_remove_20 : decode cX1_remove 20 = .ok (.if_icmp .ge 23, 3) := by decide +kernel
theorem dX1_remove_23 : decode cX1_remove 23 = .ok (.aload_n 0, 1) := by decide +kernel
theorem dX1_remove_24 : decode cX1_remove 24 = .ok (.getfield 9, 3) := by decide +kernel
theorem dX1_remove_27 : decode cX1_remove 27 = .ok (.iload_n 3, 1) := by decide +kernel
theorem dX1_remove_28 : decode cX1_remove 28 = .ok (.iconst 1, 1) := by decide +kernel
theorem dX1_remove_29 : decode cX1_remove 29 = .ok (.isub, 1) := by decide +kernel
theorem dX1_remove_30 : decode cX1_remove 30 = .ok (.aload_n 0, 1) := by decide +kernel
theorem dX1_remove_31 : decode cX1_remove 31 = .ok (.getfield 9, 3) := by decide +kernel
theorem dX1_remove_34 : decode cX1_remove 34 = .ok (.iload_n 3, 1) := by decide +kernel
theorem dX1_remove_35 : decode cX1_remove 35 = .ok (.iaload, 1) := by decide +kernel
theorem dX1_remove_36 : decode cX1_remove 36 = .ok (.iastore, 1) := by decide +kernel
theorem dX1_remove_37 : decode cX1_remove 37 = .ok (.iinc 3 1, 3) := by decide +kernel
theorem dX1_remove_40 : decode cX1_remove 40 = .ok (.goto (-25), 3) := by decide +kernel
theorem dX1_remove_43 : decode cX1_remove 43 = .ok (.aload_n 0, 1) := by decide +kernel
theorem dX1_remove_44 : decode cX1_remove 44 = .ok (.dup, 1) := by decide +kernel
theorem dX1_remove_45 : decode cX1_remove 45 = .ok (.getfield 15, 3) := by decide +kernel
theorem dX1_remove_48 : decode cX1_remove 48 = .ok (.iconst 1, 1) := by decide +kernel
theorem dX1_remove_49 : decode cX1_remove 49 = .ok (.isub, 1) := by decide +kernel
theorem dX1_remove_50 : decode cX1_remove 50 = .ok (.putfield 15, 3) := by decide +kernel
theorem dX1_remove_53 : decode cX1_remove 53 = .ok (.return_, 1) := by decide +kernel
theorem dX2_init_0 : decode cX2_init 0 = .ok (.aload_n 0, 1) := by decide +kernel
theorem dX2_init_1 : decode cX2_init 1 = .ok (.invokespecial 3, 3) := by decide +kernel
theorem dX2_init_4 : decode cX2_init 4 = .ok (.aload_n 0, 1) := by decide +kernel
theorem dX2_init_5 : decode cX2_init 5 = .ok (.iload_n 1, 1) := by decide +kernel
theorem dX2_init_6 : decode cX2_init 6 = .ok (.putfield 9, 3) := by decide +kernel
theorem dX2_init_9 : decode cX2_init 9 = .ok (.aload_n 0, 1) := by decide +kernel
theorem dX2_init_10 : decode cX2_init 10 = .ok (.new 15, 3) := by decide +kernel
theorem dX2_init_13 : decode cX2_init 13 = .ok (.dup, 1) := by decide +kernel
theorem dX2_init_14 : decode cX2_init 14 = .ok (.bipush 6, 2) := by decide +kernel
theorem dX2_init_16 : decode cX2_init 16 = .ok (.newarray .int, 2) := by decide +kernel
theorem dX2_init_18 : decode cX2_init 18 = .ok (.invokespecial 17, 3) := by decide +kernel
theorem dX2_init_21 : decode cX2_init 21 = .ok (.putfield 20, 3) := by decide +kernel
theorem dX2_init_24 : decode cX2_init 24 = .ok (.aload_n 0, 1) := by decide +kernel
theorem dX2_init_25 : decode cX2_init 25 = .ok (.iconst (-1), 1) := by decide +kernel
theorem dX2_init_26 : decode cX2_init 26 = .ok (.putfield 24, 3) := by decide +kernel
theorem dX2_init_29 : decode cX2_init 29 = .ok (.aload_n 0, 1) := by decide +kernel
theorem dX2_init_30 : decode cX2_init 30 = .ok (.iconst (-1), 1) := by decide +kernel
theorem dX2_init_31 : decode cX2_init 31 = .ok (.putfield 27, 3) := by decide +kernel
theorem dX2_init_34 : decode cX2_init 34 = .ok (.aload_n 0, 1) := by decide +kernel
theorem dX2_init_35 : decode cX2_init 35 = .ok (.iconst (-1), 1) := by decide +kernel
theorem dX2_init_36 : decode cX2_init 36 = .ok (.putfield 30, 3) := by decide +kernel
theorem dX2_init_39 : decode cX2_init 39 = .ok (.aload_n 0, 1) := by decide +kernel
theorem dX2_init_40 : decode cX2_init 40 = .ok (.iconst (-1), 1) := by decide +kernel
theorem dX2_init_41 : decode cX2_init 41 = .ok (.putfield 33, 3) := by decide +kernel
theorem dX2_init_44 : decode cX2_init 44 = .ok (.return_, 1) := by decide +kernel
theorem dX3_init_0 : decode cX3_init 0 = .ok (.aload_n 0, 1) := by decide +kernel
theorem dX3_init_1 : decode cX3_init 1 = .ok (.invokespecial 1, 3) := by decide +kernel
theorem dX3_init_4 : decode cX3_init 4 = .ok (.aload_n 0, 1) := by decide +kernel
theorem dX3_init_5 : decode cX3_init 5 = .ok (.bipush 20, 2) := by decide +kernel
theorem dX3_init_7 : decode cX3_init 7 = .ok (.anewarray 9, 3) := by decide +kernel
theorem dX3_init_10 : decode cX3_init 10 = .ok (.putfield 11, 3) := by decide +kernel
theorem dX3_init_13 : decode cX3_init 13 = .ok (.iconst 0, 1) := by decide +kernel
theorem dX3_init_14 : decode cX3_init 14 = .ok (.istore_n 1, 1) := by decide +kernel
theorem dX3_init_15 : decode cX3_init 15 = .ok (.iload_n 1, 1) := by decide +kernel
theorem dX3_init_16 : decode cX3_init 16 = .ok (.aload_n 0, 1) := by decide +kernel
theorem dX3_init_17 : decode cX3_init 17 = .ok (.getfield 11, 3) := by decide +kernel
theorem dX3_init_20 : decode cX3_init 20 = .ok (.arraylength, 1) := by decide +kernel
theorem dX3_init_21 : decode cX3_init 21 = .ok (.if_icmp .ge 23, 3) := by decide +kernel
theorem dX3_init_24 : decode cX3_init 24 = .ok (.aload_n 0, 1) := by decide +kernel
theorem dX3_init_25 : decode cX3_init 25 = .ok (.getfield 11, 3) := by decide +kernel
theorem dX3_init_28 : decode cX3_init 28 = .ok (.iload_n 1, 1) := by decide +kernel
theorem dX3_init_29 : decode cX3_init 29 = .ok (.new 9, 3) := by decide +kernel
theorem dX3_init_32 : decode cX3_init 32 = .ok (.dup, 1) := by decide +kernel
theorem dX3_init_33 : decode cX3_init 33 = .ok (.iload_n 1, 1) := by decide +kernel
theorem dX3_init_34 : decode cX3_init 34 = .ok (.invokespecial 15, 3) := by decide +kernel
theorem dX3_init_37 : decode cX3_init 37 = .ok (.aastore, 1) := by decide +kernel
theorem dX3_init_38 : decode cX3_init 38 = .ok (.iinc 1 1, 3) := by decide +kernel
theorem dX3_init_41 : decode cX3_init 41 = .ok (.goto (-26), 3) := by decide +kernel
theorem dX3_init_44 : decode cX3_init 44 = .ok (.aload_n 0, 1) := by decide +kernel
theorem dX3_init_45 : decode cX3_init 45 = .ok (.bipush 16, 2) := by decide +kernel
theorem dX3_init_47 : decode cX3_init 47 = .ok (.anewarray 18, 3) := by decide +kernel
theorem dX3_init_50 : decode cX3_init 50 = .ok (.putfield 20, 3) := by decide +kernel
theorem dX3_init_53 : decode cX3_init 53 = .ok (.iconst 0, 1) := by decide +kernel
theorem dX3_init_54 : decode cX3_init 54 = .ok (.istore_n 1, 1) := by decide +kernel
theorem dX3_init_55 : decode cX3_init 55 = .ok (.iload_n 1, 1) := by decide +kernel
theorem dX3_init_56 : decode cX3_init 56 = .ok (.aload_n 0, 1) := by decide +kernel
theorem dX3_init_57 : decode cX3_init 57 = .ok (.getfield 20, 3) := by decide +kernel
theorem dX3_init_60 : decode cX3_init 60 = .ok (.arraylength, 1) := by decide +kernel
theorem dX3_init_61 : decode cX3_init 61 = .ok (.if_icmp .ge 23, 3) := by decide +kernel
theorem dX3_init_64 : decode cX3_init 64 = .ok (.aload_n 0, 1) := by decide +kernel
theorem dX3_init_65 : decode cX3_init 65 = .ok (.getfield 20, 3) := by decide +kernel
theorem dX3_init_68 : decode cX3_init 68 = .ok (.iload_n 1, 1) := by decide +kernel
theorem dX3_init_69 : decode cX3_init 69 = .ok (.new 18, 3) := by decide +kernel
theorem dX3_init_72 : decode cX3_init 72 = .ok (.dup, 1) := by decide +kernel
theorem dX3_init_73 : decode cX3_init 73 = .ok (.iload_n 1, 1) := by decide +kernel
theorem dX3_init_74 : decode cX3_init 74 = .ok (.invokespecial 24, 3) := by decide +kernel
theorem dX3_init_77 : decode cX3_init 77 = .ok (.aastore, 1) := by decide +kernel
theorem dX3_init_78 : decode cX3_init 78 = .ok (.iinc 1 1, 3) := by decide +kernel
theorem dX3_init_81 : decode cX3_init 81 = .ok (.goto (-26), 3) := by decide +kernel
theorem dX3_init_84 : decode cX3_init 84 = .ok (.aload_n 0, 1) := by decide +kernel
theorem dX3_init_85 : decode cX3_init 85 = .ok (.iconst 0, 1) := by decide +kernel
theorem dX3_init_86 : decode cX3_init 86 = .ok (.putfield 25, 3) := by decide +kernel
theorem dX3_init_89 : decode cX3_init 89 = .ok (.aload_n 0, 1) := by decide +kernel
theorem dX3_init_90 : decode cX3_init 90 = .ok (.iconst 0, 1) := by decide +kernel
theorem dX3_init_91 : decode cX3_init 91 = .ok (.putfield 29, 3) := by decide +kernel
theorem dX3_init_94 : decode cX3_init 94 = .ok (.aload_n 0, 1) := by decide +kernel
theorem dX3_init_95 : decode cX3_init 95 = .ok (.iconst 0, 1) := by decide +kernel
theorem dX3_init_96 : decode cX3_init 96 = .ok (.putfield 32, 3) := by decide +kernel
theorem dX3_init_99 : decode cX3_init 99 = .ok (.aload_n 0, 1) := by decide +kernel
theorem dX3_init_100 : decode cX3_init 100 = .ok (.bipush 16, 2) := by decide +kernel
theorem dX3_init_102 : decode cX3_init 102 = .ok (.newarray .int, 2) := by decide +kernel
theorem dX3_init_104 : decode cX3_init 104 = .ok (.putfield 35, 3) := by decide +kernel
theorem dX3_init_107 : decode cX3_init 107 = .ok (.return_, 1) := by decide +kernel
theorem dX3_addCourse_0 : decode cX3_addCourse 0 = .ok (.iload_n 1, 1) := by decide +kernel
theorem dX3_addCourse_1 : decode cX3_addCourse 1 = .ok (.iconst 0, 1) := by decide +kernel
theorem dX3_addCourse_2 : decode cX3_addCourse 2 = .ok (.bipush 16, 2) := by decide +kernel
theorem dX3_addCourse_4 : decode cX3_addCourse 4 = .ok (.invokestatic 39, 3) := by decide +kernel
theorem dX3_addCourse_7 : decode cX3_addCourse 7 = .ok (.ifCond .ne 23, 3) := by decide +kernel
theorem dX3_addCourse_10 : decode cX3_addCourse 10 = .ok (.iload_n 2, 1) := by decide +kernel
theorem dX3_addCourse_11 : decode cX3_addCourse 11 = .ok (.iconst 1, 1) := by decide +kernel
theorem dX3_addCourse_12 : decode cX3_addCourse 12 = .ok (.bipush 12, 2) := by decide +kernel
theorem dX3_addCourse_14 : decode cX3_addCourse 14 = .ok (.invokestatic 39, 3) := by decide +kernel
theorem dX3_addCourse_17 : decode cX3_addCourse 17 = .ok (.ifCond .ne 13, 3) := by decide +kernel
theorem dX3_addCourse_20 : decode cX3_addCourse 20 = .ok (.iload_n 3, 1) := by decide +kernel
theorem dX3_addCourse_21 : decode cX3_addCourse 21 = .ok (.iconst 0, 1) := by decide +kernel
theorem dX3_addCourse_22 : decode cX3_addCourse 22 = .ok (.ldc 43, 2) := by decide +kernel
theorem dX3_addCourse_24 : decode cX3_addCourse 24 = .ok (.invokestatic 39, 3) := by decide +kernel
theorem dX3_addCourse_27 : decode cX3_addCourse 27 = .ok (.ifCond .eq 13, 3) := by decide +kernel
theorem dX3_addCourse_30 : decode cX3_addCourse 30 = .ok (.new 44, 3) := by decide +kernel
theorem dX3_addCourse_33 : decode cX3_addCourse 33 = .ok (.dup, 1) := by decide +kernel
theorem dX3_addCourse_34 : decode cX3_addCourse 34 = .ok (.ldc 46, 2) := by decide +kernel
theorem dX3_addCourse_36 : decode cX3_addCourse 36 = .ok (.invokespecial 48, 3) := by decide +kernel
theorem dX3_addCourse_39 : decode cX3_addCourse 39 = .ok (.athrow, 1) := by decide +kernel
theorem dX3_addCourse_40 : decode cX3_addCourse 40 = .ok (.aload_n 0, 1) := by decide +kernel
theorem dX3_addCourse_41 : decode cX3_addCourse 41 = .ok (.getfield 25, 3) := by decide +kernel
theorem dX3_addCourse_44 : decode cX3_addCourse 44 = .ok (.aload_n 0, 1) := by decide +kernel
theorem dX3_addCourse_45 : decode cX3_addCourse 45 = .ok (.getfield 11, 3) := by decide +kernel
theorem dX3_addCourse_48 : decode cX3_addCourse 48 = .ok (.arraylength, 1) := by decide +kernel
theorem dX3_addCourse_49 : decode cX3_addCourse 49 = .ok (.if_icmp .lt 13, 3) := by decide +kernel
theorem dX3_addCourse_52 : decode cX3_addCourse 52 = .ok (.new 51, 3) := by decide +kernel
theorem dX3_addCourse_55 : decode cX3_addCourse 55 = .ok (.dup, 1) := by decide +kernel
theorem dX3_addCourse_56 : decode cX3_addCourse 56 = .ok (.ldc 53, 2) := by decide +kernel
theorem dX3_addCourse_58 : decode cX3_addCourse 58 = .ok (.invokespecial 55, 3) := by decide +kernel
theorem dX3_addCourse_61 : decode cX3_addCourse 61 = .ok (.athrow, 1) := by decide +kernel
theorem dX3_addCourse_62 : decode cX3_addCourse 62 = .ok (.aload_n 0, 1) := by decide +kernel
theorem dX3_addCourse_63 : decode cX3_addCourse 63 = .ok (.getfield 11, 3) := by decide +kernel
theorem dX3_addCourse_66 : decode cX3_addCourse 66 = .ok (.aload_n 0, 1) := by decide +kernel
theorem dX3_addCourse_67 : decode cX3_addCourse 67 = .ok (.getfield 25, 3) := by decide +kernel
theorem dX3_addCourse_70 : decode cX3_addCourse 70 = .ok (.aaload, 1) := by decide +kernel
theorem dX3_addCourse_71 : decode cX3_addCourse 71 = .ok (.astore 4, 2) := by decide +kernel
theorem dX3_addCourse_73 : decode cX3_addCourse 73 = .ok (.aload 4, 2) := by decide +kernel
theorem dX3_addCourse_75 : decode cX3_addCourse 75 = .ok (.iload_n 1, 1) := by decide +kernel
theorem dX3_addCourse_76 : decode cX3_addCourse 76 = .ok (.putfield 56, 3) := by decide +kernel
theorem dX3_addCourse_79 : decode cX3_addCourse 79 = .ok (.aload 4, 2) := by decide +kernel
theorem dX3_addCourse_81 : decode cX3_addCourse 81 = .ok (.iload_n 2, 1) := by decide +kernel
theorem dX3_addCourse_82 : decode cX3_addCourse 82 = .ok (.putfield 59, 3) := by decide +kernel
theorem dX3_addCourse_85 : decode cX3_addCourse 85 = .ok (.aload 4, 2) := by decide +kernel
theorem dX3_addCourse_87 : decode cX3_addCourse 87 = .ok (.iload_n 3, 1) := by decide +kernel
theorem dX3_addCourse_88 : decode cX3_addCourse 88 = .ok (.putfield 62, 3) := by decide +kernel
theorem dX3_addCourse_91 : decode cX3_addCourse 91 = .ok (.aload_n 0, 1) := by decide +kernel
theorem dX3_addCourse_92 : decode cX3_addCourse 92 = .ok (.dup, 1) := by decide +kernel
theorem dX3_addCourse_93 : decode cX3_addCourse 93 = .ok (.getfield 25, 3) := by decide +kernel
theorem dX3_addCourse_96 : decode cX3_addCourse 96 = .ok (.iconst 1, 1) := by decide +kernel
theorem dX3_addCourse_97 : decode cX3_addCourse 97 = .ok (.iadd, 1) := by decide +kernel
theorem dX3_addCourse_98 : decode cX3_addCourse 98 = .ok (.putfield 25, 3) := by decide +kernel
theorem dX3_addCourse_101 : decode cX3_addCourse 101 = .ok (.aload 4, 2) := by decide +kernel
theorem dX3_addCourse_103 : decode cX3_addCourse 103 = .ok (.getfield 65, 3) := by decide +kernel
theorem dX3_addCourse_106 : decode cX3_addCourse 106 = .ok (.ireturn, 1) := by decide +kernel
theorem dX3_setSeats_0 : decode cX3_setSeats 0 = .ok (.aload_n 0, 1) := by decide +kernel
theorem dX3_setSeats_1 : decode cX3_setSeats 1 = .ok (.iload_n 1, 1) := by decide +kernel
theorem dX3_setSeats_2 : decode cX3_setSeats 2 = .ok (.invokevirtual 68, 3) := by decide +kernel
theorem dX3_setSeats_5 : decode cX3_setSeats 5 = .ok (.astore_n 3, 1) := by decide +kernel
theorem dX3_setSeats_6 : decode cX3_setSeats 6 = .ok (.iload_n 2, 1) := by decide +kernel
theorem dX3_setSeats_7 : decode cX3_setSeats 7 = .ok (.iconst 0, 1) := by decide +kernel
theorem dX3_setSeats_8 : decode cX3_setSeats 8 = .ok (.bipush 16, 2) := by decide +kernel
theorem dX3_setSeats_10 : decode cX3_setSeats 10 = .ok (.invokestatic 39, 3) := by decide +kernel
theorem dX3_setSeats_13 : decode cX3_setSeats 13 = .ok (.ifCond .eq 13, 3) := by decide +kernel
theorem dX3_setSeats_16 : decode cX3_setSeats 16 = .ok (.new 44, 3) := by decide +kernel
theorem dX3_setSeats_19 : decode cX3_setSeats 19 = .ok (.dup, 1) := by decide +kernel
theorem dX3_setSeats_20 : decode cX3_setSeats 20 = .ok (.ldc 72, 2) := by decide +kernel
theorem dX3_setSeats_22 : decode cX3_setSeats 22 = .ok (.invokespecial 48, 3) := by decide +kernel
theorem dX3_setSeats_25 : decode cX3_setSeats 25 = .ok (.athrow, 1) := by decide +kernel
theorem dX3_setSeats_26 : decode cX3_setSeats 26 = .ok (.iload_n 2, 1) := by decide +kernel
theorem dX3_setSeats_27 : decode cX3_setSeats 27 = .ok (.aload_n 0, 1) := by decide +kernel
theorem dX3_setSeats_28 : decode cX3_setSeats 28 = .ok (.aload_n 3, 1) := by decide +kernel
theorem dX3_setSeats_29 : decode cX3_setSeats 29 = .ok (.invokevirtual 74, 3) := by decide +kernel
theorem dX3_setSeats_32 : decode cX3_setSeats 32 = .ok (.if_icmp .ge 13, 3) := by decide +kernel
theorem dX3_setSeats_35 : decode cX3_setSeats 35 = .ok (.new 51, 3) := by decide +kernel
theorem dX3_setSeats_38 : decode cX3_setSeats 38 = .ok (.dup, 1) := by decide +kernel
theorem dX3_setSeats_39 : decode cX3_setSeats 39 = .ok (.ldc 78, 2) := by decide +kernel
theorem dX3_setSeats_41 : decode cX3_setSeats 41 = .ok (.invokespecial 55, 3) := by decide +kernel
theorem dX3_setSeats_44 : decode cX3_setSeats 44 = .ok (.athrow, 1) := by decide +kernel
theorem dX3_setSeats_45 : decode cX3_setSeats 45 = .ok (.aload_n 3, 1) := by decide +kernel
theorem dX3_setSeats_46 : decode cX3_setSeats 46 = .ok (.getfield 56, 3) := by decide +kernel
theorem dX3_setSeats_49 : decode cX3_setSeats 49 = .ok (.istore 4, 2) := by decide +kernel
theorem dX3_setSeats_51 : decode cX3_setSeats 51 = .ok (.aload_n 3, 1) := by decide +kernel
theorem dX3_setSeats_52 : decode cX3_setSeats 52 = .ok (.iload_n 2, 1) := by decide +kernel
theorem dX3_setSeats_53 : decode cX3_setSeats 53 = .ok (.putfield 56, 3) := by decide +kernel
theorem dX3_setSeats_56 : decode cX3_setSeats 56 = .ok (.aload_n 0, 1) := by decide +kernel
theorem dX3_setSeats_57 : decode cX3_setSeats 57 = .ok (.invokevirtual 80, 3) := by decide +kernel
theorem dX3_setSeats_60 : decode cX3_setSeats 60 = .ok (.iload 4, 2) := by decide +kernel
theorem dX3_setSeats_62 : decode cX3_setSeats 62 = .ok (.ireturn, 1) := by decide +kernel
theorem dX3_addPrerequisite_0 : decode cX3_addPrerequisite 0 = .ok (.aload_n 0, 1) := by decide +kernel
theorem dX3_addPrerequisite_1 : decode cX3_addPrerequisite 1 = .ok (.iload_n 1, 1) := by decide +kernel
theorem dX3_addPrerequisite_2 : decode cX3_addPrerequisite 2 = .ok (.invokevirtual 68, 3) := by decide +kernel
theorem dX3_addPrerequisite_5 : decode cX3_addPrerequisite 5 = .ok (.astore_n 3, 1) := by decide +kernel
theorem dX3_addPrerequisite_6 : decode cX3_addPrerequisite 6 = .ok (.aload_n 0, 1) := by decide +kernel
theorem dX3_addPrerequisite_7 : decode cX3_addPrerequisite 7 = .ok (.iload_n 2, 1) := by decide +kernel
theorem dX3_addPrerequisite_8 : decode cX3_addPrerequisite 8 = .ok (.invokevirtual 68, 3) := by decide +kernel
theorem dX3_addPrerequisite_11 : decode cX3_addPrerequisite 11 = .ok (.astore 4, 2) := by decide +kernel
theorem dX3_addPrerequisite_13 : decode cX3_addPrerequisite 13 = .ok (.iload_n 1, 1) := by decide +kernel
theorem dX3_addPrerequisite_14 : decode cX3_addPrerequisite 14 = .ok (.iload_n 2, 1) := by decide +kernel
theorem dX3_addPrerequisite_15 : decode cX3_addPrerequisite 15 = .ok (.if_icmp .eq 26, 3) := by decide +kernel
theorem dX3_addPrerequisite_18 : decode cX3_addPrerequisite 18 = .ok (.aload_n 3, 1) := by decide +kernel
theorem dX3_addPrerequisite_19 : decode cX3_addPrerequisite 19 = .ok (.getfield 83, 3) := by decide +kernel
theorem dX3_addPrerequisite_22 : decode cX3_addPrerequisite 22 = .ok (.iload_n 2, 1) := by decide +kernel
theorem dX3_addPrerequisite_23 : decode cX3_addPrerequisite 23 = .ok (.invokestatic 86, 3) := by decide +kernel
theorem dX3_addPrerequisite_26 : decode cX3_addPrerequisite 26 = .ok (.ifCond .ne 15, 3) := by decide +kernel
theorem dX3_addPrerequisite_29 : decode cX3_addPrerequisite 29 = .ok (.aload 4, 2) := by decide +kernel
theorem dX3_addPrerequisite_31 : decode cX3_addPrerequisite 31 = .ok (.getfield 90, 3) := by decide +kernel
theorem dX3_addPrerequisite_34 : decode cX3_addPrerequisite 34 = .ok (.iload_n 1, 1) := by decide +kernel
theorem dX3_addPrerequisite_35 : decode cX3_addPrerequisite 35 = .ok (.invokestatic 86, 3) := by decide +kernel
theorem dX3_addPrerequisite_38 : decode cX3_addPrerequisite 38 = .ok (.ifCond .eq 13, 3) := by decide +kernel
theorem dX3_addPrerequisite_41 : decode cX3_addPrerequisite 41 = .ok (.new 51, 3) := by decide +kernel
theorem dX3_addPrerequisite_44 : decode cX3_addPrerequisite 44 = .ok (.dup, 1) := by decide +kernel
theorem dX3_addPrerequisite_45 : decode cX3_addPrerequisite 45 = .ok (.ldc 93, 2) := by decide +kernel
theorem dX3_addPrerequisite_47 : decode cX3_addPrerequisite 47 = .ok (.invokespecial 55, 3) := by decide +kernel
theorem dX3_addPrerequisite_50 : decode cX3_addPrerequisite 50 = .ok (.athrow, 1) := by decide +kernel
theorem dX3_addPrerequisite_51 : decode cX3_addPrerequisite 51 = .ok (.aload_n 3, 1) := by decide +kernel
theorem dX3_addPrerequisite_52 : decode cX3_addPrerequisite 52 = .ok (.dup, 1) := by decide +kernel
theorem dX3_addPrerequisite_53 : decode cX3_addPrerequisite 53 = .ok (.getfield 83, 3) := by decide +kernel
theorem dX3_addPrerequisite_56 : decode cX3_addPrerequisite 56 = .ok (.iload_n 2, 1) := by decide +kernel
theorem dX3_addPrerequisite_57 : decode cX3_addPrerequisite 57 = .ok (.invokestatic 95, 3) := by decide +kernel
theorem dX3_addPrerequisite_60 : decode cX3_addPrerequisite 60 = .ok (.ior, 1) := by decide +kernel
theorem dX3_addPrerequisite_61 : decode cX3_addPrerequisite 61 = .ok (.putfield 83, 3) := by decide +kernel
theorem dX3_addPrerequisite_64 : decode cX3_addPrerequisite 64 = .ok (.aload_n 0, 1) := by decide +kernel
theorem dX3_addPrerequisite_65 : decode cX3_addPrerequisite 65 = .ok (.aload_n 3, 1) := by decide +kernel
theorem dX3_addPrerequisite_66 : decode cX3_addPrerequisite 66 = .ok (.aload 4, 2) := by decide +kernel
theorem dX3_addPrerequisite_68 : decode cX3_addPrerequisite 68 = .ok (.getfield 90, 3) := by decide +kernel
theorem dX3_addPrerequisite_71 : decode cX3_addPrerequisite 71 = .ok (.iload_n 2, 1) := by decide +kernel
theorem dX3_addPrerequisite_72 : decode cX3_addPrerequisite 72 = .ok (.invokestatic 95, 3) := by decide +kernel
theorem dX3_addPrerequisite_75 : decode cX3_addPrerequisite 75 = .ok (.ior, 1) := by decide +kernel
theorem dX3_addPrerequisite_76 : decode cX3_addPrerequisite 76 = .ok (.invokevirtual 99, 3) := by decide +kernel
theorem dX3_addPrerequisite_79 : decode cX3_addPrerequisite 79 = .ok (.aload_n 3, 1) := by decide +kernel
theorem dX3_addPrerequisite_80 : decode cX3_addPrerequisite 80 = .ok (.getfield 90, 3) := by decide +kernel
theorem dX3_addPrerequisite_83 : decode cX3_addPrerequisite 83 = .ok (.invokestatic 103, 3) := by decide +kernel
theorem dX3_addPrerequisite_86 : decode cX3_addPrerequisite 86 = .ok (.ireturn, 1) := by decide +kernel
theorem dX3_requires_0 : decode cX3_requires 0 = .ok (.aload_n 0, 1) := by decide +kernel
theorem dX3_requires_1 : decode cX3_requires 1 = .ok (.iload_n 1, 1) := by decide +kernel
theorem dX3_requires_2 : decode cX3_requires 2 = .ok (.invokevirtual 68, 3) := by decide +kernel
theorem dX3_requires_5 : decode cX3_requires 5 = .ok (.astore_n 3, 1) := by decide +kernel
theorem dX3_requires_6 : decode cX3_requires 6 = .ok (.aload_n 0, 1) := by decide +kernel
theorem dX3_requires_7 : decode cX3_requires 7 = .ok (.iload_n 2, 1) := by decide +kernel
theorem dX3_requires_8 : decode cX3_requires 8 = .ok (.invokevirtual 68, 3) := by decide +kernel
theorem dX3_requires_11 : decode cX3_requires 11 = .ok (.astore 4, 2) := by decide +kernel
theorem dX3_requires_13 : decode cX3_requires 13 = .ok (.aload_n 3, 1) := by decide +kernel
theorem dX3_requires_14 : decode cX3_requires 14 = .ok (.getfield 90, 3) := by decide +kernel
theorem dX3_requires_17 : decode cX3_requires 17 = .ok (.aload 4, 2) := by decide +kernel
theorem dX3_requires_19 : decode cX3_requires 19 = .ok (.getfield 65, 3) := by decide +kernel
theorem dX3_requires_22 : decode cX3_requires 22 = .ok (.invokestatic 86, 3) := by decide +kernel
theorem dX3_requires_25 : decode cX3_requires 25 = .ok (.ireturn, 1) := by decide +kernel
theorem dX3_level_0 : decode cX3_level 0 = .ok (.aload_n 0, 1) := by decide +kernel
theorem dX3_level_1 : decode cX3_level 1 = .ok (.aload_n 0, 1) := by decide +kernel
theorem dX3_level_2 : decode cX3_level 2 = .ok (.iload_n 1, 1) := by decide +kernel
theorem dX3_level_3 : decode cX3_level 3 = .ok (.invokevirtual 68, 3) := by decide +kernel
theorem dX3_level_6 : decode cX3_level 6 = .ok (.invokevirtual 108, 3) := by decide +kernel
theorem dX3_level_9 : decode cX3_level 9 = .ok (.ireturn, 1) := by decide +kernel
theorem dX3_courses_0 : decode cX3_courses 0 = .ok (.aload_n 0, 1) := by decide +kernel
theorem dX3_courses_1 : decode cX3_courses 1 = .ok (.getfield 25, 3) := by decide +kernel
theorem dX3_courses_4 : decode cX3_courses 4 = .ok (.ireturn, 1) := by decide +kernel
theorem dX3_enrolled_0 : decode cX3_enrolled 0 = .ok (.aload_n 0, 1) := by decide +kernel
theorem dX3_enrolled_1 : decode cX3_enrolled 1 = .ok (.aload_n 0, 1) := by decide +kernel
theorem dX3_enrolled_2 : decode cX3_enrolled 2 = .ok (.iload_n 1, 1) := by decide +kernel
theorem dX3_enrolled_3 : decode cX3_enrolled 3 = .ok (.invokevirtual 68, 3) := by decide +kernel
theorem dX3_enrolled_6 : decode cX3_enrolled 6 = .ok (.invokevirtual 111, 3) := by decide +kernel
theorem dX3_enrolled_9 : decode cX3_enrolled 9 = .ok (.ireturn, 1) := by decide +kernel
theorem dX3_freeSeats_0 : decode cX3_freeSeats 0 = .ok (.aload_n 0, 1) := by decide +kernel
theorem dX3_freeSeats_1 : decode cX3_freeSeats 1 = .ok (.aload_n 0, 1) := by decide +kernel
theorem dX3_freeSeats_2 : decode cX3_freeSeats 2 = .ok (.iload_n 1, 1) := by decide +kernel
theorem dX3_freeSeats_3 : decode cX3_freeSeats 3 = .ok (.invokevirtual 68, 3) := by decide +kernel
theorem dX3_freeSeats_6 : decode cX3_freeSeats 6 = .ok (.invokevirtual 114, 3) := by decide +kernel
theorem dX3_freeSeats_9 : decode cX3_freeSeats 9 = .ok (.ireturn, 1) := by decide +kernel
theorem dX3_addStudent_0 : decode cX3_addStudent 0 = .ok (.iload_n 1, 1) := by decide +kernel
theorem dX3_addStudent_1 : decode cX3_addStudent 1 = .ok (.iconst 0, 1) := by decide +kernel
theorem dX3_addStudent_2 : decode cX3_addStudent 2 = .ok (.iconst 3, 1) := by decide +kernel
theorem dX3_addStudent_3 : decode cX3_addStudent 3 = .ok (.invokestatic 39, 3) := by decide +kernel
theorem dX3_addStudent_6 : decode cX3_addStudent 6 = .ok (.ifCond .ne 13, 3) := by decide +kernel
theorem dX3_addStudent_9 : decode cX3_addStudent 9 = .ok (.iload_n 2, 1) := by decide +kernel
theorem dX3_addStudent_10 : decode cX3_addStudent 10 = .ok (.iconst 1, 1) := by decide +kernel
theorem dX3_addStudent_11 : decode cX3_addStudent 11 = .ok (.bipush 40, 2) := by decide +kernel
theorem dX3_addStudent_13 : decode cX3_addStudent 13 = .ok (.invokestatic 39, 3) := by decide +kernel
theorem dX3_addStudent_16 : decode cX3_addStudent 16 = .ok (.ifCond .eq 13, 3) := by decide +kernel
theorem dX3_addStudent_19 : decode cX3_addStudent 19 = .ok (.new 44, 3) := by decide +kernel
theorem dX3_addStudent_22 : decode cX3_addStudent 22 = .ok (.dup, 1) := by decide +kernel
theorem dX3_addStudent_23 : decode cX3_addStudent 23 = .ok (.ldc 117, 2) := by decide +kernel
theorem dX3_addStudent_25 : decode cX3_addStudent 25 = .ok (.invokespecial 48, 3) := by decide +kernel
theorem dX3_addStudent_28 : decode cX3_addStudent 28 = .ok (.athrow, 1) := by decide +kernel
theorem dX3_addStudent_29 : decode cX3_addStudent 29 = .ok (.aload_n 0, 1) := by decide +kernel
theorem dX3_addStudent_30 : decode cX3_addStudent 30 = .ok (.getfield 29, 3) := by decide +kernel
theorem dX3_addStudent_33 : decode cX3_addStudent 33 = .ok (.aload_n 0, 1) := by decide +kernel
theorem dX3_addStudent_34 : decode cX3_addStudent 34 = .ok (.getfield 20, 3) := by decide +kernel
theorem dX3_addStudent_37 : decode cX3_addStudent 37 = .ok (.arraylength, 1) := by decide +kernel
theorem dX3_addStudent_38 : decode cX3_addStudent 38 = .ok (.if_icmp .lt 13, 3) := by decide +kernel
theorem dX3_addStudent_41 : decode cX3_addStudent 41 = .ok (.new 51, 3) := by decide +kernel
theorem dX3_addStudent_44 : decode cX3_addStudent 44 = .ok (.dup, 1) := by decide +kernel
theorem dX3_addStudent_45 : decode cX3_addStudent 45 = .ok (.ldc 119, 2) := by decide +kernel
theorem dX3_addStudent_47 : decode cX3_addStudent 47 = .ok (.invokespecial 55, 3) := by decide +kernel
theorem dX3_addStudent_50 : decode cX3_addStudent 50 = .ok (.athrow, 1) := by decide +kernel
theorem dX3_addStudent_51 : decode cX3_addStudent 51 = .ok (.aload_n 0, 1) := by decide +kernel
theorem dX3_addStudent_52 : decode cX3_addStudent 52 = .ok (.getfield 20, 3) := by decide +kernel
theorem dX3_addStudent_55 : decode cX3_addStudent 55 = .ok (.aload_n 0, 1) := by decide +kernel
theorem dX3_addStudent_56 : decode cX3_addStudent 56 = .ok (.getfield 29, 3) := by decide +kernel
theorem dX3_addStudent_59 : decode cX3_addStudent 59 = .ok (.aaload, 1) := by decide +kernel
theorem dX3_addStudent_60 : decode cX3_addStudent 60 = .ok (.astore_n 3, 1) := by decide +kernel
theorem dX3_addStudent_61 : decode cX3_addStudent 61 = .ok (.aload_n 3, 1) := by decide +kernel
theorem dX3_addStudent_62 : decode cX3_addStudent 62 = .ok (.iload_n 1, 1) := by decide +kernel
theorem dX3_addStudent_63 : decode cX3_addStudent 63 = .ok (.putfield 121, 3) := by decide +kernel
theorem dX3_addStudent_66 : decode cX3_addStudent 66 = .ok (.aload_n 3, 1) := by decide +kernel
theorem dX3_addStudent_67 : decode cX3_addStudent 67 = .ok (.iload_n 2, 1) := by decide +kernel
theorem dX3_addStudent_68 : decode cX3_addStudent 68 = .ok (.putfield 124, 3) := by decide +kernel
theorem dX3_addStudent_71 : decode cX3_addStudent 71 = .ok (.aload_n 0, 1) := by decide +kernel
theorem dX3_addStudent_72 : decode cX3_addStudent 72 = .ok (.dup, 1) := by decide +kernel
theorem dX3_addStudent_73 : decode cX3_addStudent 73 = .ok (.getfield 29, 3) := by decide +kernel
theorem dX3_addStudent_76 : decode cX3_addStudent 76 = .ok (.iconst 1, 1) := by decide +kernel
theorem dX3_addStudent_77 : decode cX3_addStudent 77 = .ok (.iadd, 1) := by decide +kernel
theorem dX3_addStudent_78 : decode cX3_addStudent 78 = .ok (.putfield 29, 3) := by decide +kernel
theorem dX3_addStudent_81 : decode cX3_addStudent 81 = .ok (.aload_n 3, 1) := by decide +kernel
theorem dX3_addStudent_82 : decode cX3_addStudent 82 = .ok (.getfield 127, 3) := by decide +kernel
theorem dX3_addStudent_85 : decode cX3_addStudent 85 = .ok (.ireturn, 1) := by decide +kernel
theorem dX3_pass_0 : decode cX3_pass 0 = .ok (.aload_n 0, 1) := by decide +kernel
theorem dX3_pass_1 : decode cX3_pass 1 = .ok (.iload_n 1, 1) := by decide +kernel
theorem dX3_pass_2 : decode cX3_pass 2 = .ok (.invokevirtual 128, 3) := by decide +kernel
theorem dX3_pass_5 : decode cX3_pass 5 = .ok (.astore_n 3, 1) := by decide +kernel
theorem dX3_pass_6 : decode cX3_pass 6 = .ok (.aload_n 0, 1) := by decide +kernel
theorem dX3_pass_7 : decode cX3_pass 7 = .ok (.iload_n 2, 1) := by decide +kernel
theorem dX3_pass_8 : decode cX3_pass 8 = .ok (.invokevirtual 68, 3) := by decide +kernel
theorem dX3_pass_11 : decode cX3_pass 11 = .ok (.astore 4, 2) := by decide +kernel
theorem dX3_pass_13 : decode cX3_pass 13 = .ok (.aload_n 3, 1) := by decide +kernel
theorem dX3_pass_14 : decode cX3_pass 14 = .ok (.getfield 132, 3) := by decide +kernel
theorem dX3_pass_17 : decode cX3_pass 17 = .ok (.iload_n 2, 1) := by decide +kernel
theorem dX3_pass_18 : decode cX3_pass 18 = .ok (.invokestatic 86, 3) := by decide +kernel
theorem dX3_pass_21 : decode cX3_pass 21 = .ok (.ifCond .ne 14, 3) := by decide +kernel
theorem dX3_pass_24 : decode cX3_pass 24 = .ok (.aload_n 3, 1) := by decide +kernel
theorem dX3_pass_25 : decode cX3_pass 25 = .ok (.getfield 135, 3) := by decide +kernel
theorem dX3_pass_28 : decode cX3_pass 28 = .ok (.iload_n 2, 1) := by decide +kernel
theorem dX3_pass_29 : decode cX3_pass 29 = .ok (.invokestatic 86, 3) := by decide +kernel
theorem dX3_pass_32 : decode cX3_pass 32 = .ok (.ifCond .eq 13, 3) := by decide +kernel
theorem dX3_pass_35 : decode cX3_pass 35 = .ok (.new 51, 3) := by decide +kernel
theorem dX3_pass_38 : decode cX3_pass 38 = .ok (.dup, 1) := by decide +kernel
theorem dX3_pass_39 : decode cX3_pass 39 = .ok (.ldc 138, 2) := by decide +kernel
theorem dX3_pass_41 : decode cX3_pass 41 = .ok (.invokespecial 55, 3) := by decide +kernel
theorem dX3_pass_44 : decode cX3_pass 44 = .ok (.athrow, 1) := by decide +kernel
theorem dX3_pass_45 : decode cX3_pass 45 = .ok (.aload_n 3, 1) := by decide +kernel
theorem dX3_pass_46 : decode cX3_pass 46 = .ok (.dup, 1) := by decide +kernel
theorem dX3_pass_47 : decode cX3_pass 47 = .ok (.getfield 132, 3) := by decide +kernel
theorem dX3_pass_50 : decode cX3_pass 50 = .ok (.iload_n 2, 1) := by decide +kernel
theorem dX3_pass_51 : decode cX3_pass 51 = .ok (.invokestatic 95, 3) := by decide +kernel
theorem dX3_pass_54 : decode cX3_pass 54 = .ok (.ior, 1) := by decide +kernel
theorem dX3_pass_55 : decode cX3_pass 55 = .ok (.putfield 132, 3) := by decide +kernel
theorem dX3_pass_58 : decode cX3_pass 58 = .ok (.aload_n 3, 1) := by decide +kernel
theorem dX3_pass_59 : decode cX3_pass 59 = .ok (.getfield 140, 3) := by decide +kernel
theorem dX3_pass_62 : decode cX3_pass 62 = .ok (.iload_n 2, 1) := by decide +kernel
theorem dX3_pass_63 : decode cX3_pass 63 = .ok (.invokevirtual 144, 3) := by decide +kernel
theorem dX3_pass_66 : decode cX3_pass 66 = .ok (.aload 4, 2) := by decide +kernel
theorem dX3_pass_68 : decode cX3_pass 68 = .ok (.iload_n 1, 1) := by decide +kernel
theorem dX3_pass_69 : decode cX3_pass 69 = .ok (.invokevirtual 149, 3) := by decide +kernel
theorem dX3_pass_72 : decode cX3_pass 72 = .ok (.aload_n 0, 1) := by decide +kernel
theorem dX3_pass_73 : decode cX3_pass 73 = .ok (.invokevirtual 80, 3) := by decide +kernel
theorem dX3_pass_76 : decode cX3_pass 76 = .ok (.aload_n 3, 1) := by decide +kernel
theorem dX3_pass_77 : decode cX3_pass 77 = .ok (.getfield 132, 3) := by decide +kernel
theorem dX3_pass_80 : decode cX3_pass 80 = .ok (.invokestatic 103, 3) := by decide +kernel
theorem dX3_pass_83 : decode cX3_pass 83 = .ok (.ireturn, 1) := by decide +kernel
theorem dX3_students_0 : decode cX3_students 0 = .ok (.aload_n 0, 1) := by decide +kernel
theorem dX3_students_1 : decode cX3_students 1 = .ok (.getfield 29, 3) := by decide +kernel
theorem dX3_students_4 : decode cX3_students 4 = .ok (.ireturn, 1) := by decide +kernel
theorem dX3_hasPassed_0 : decode cX3_hasPassed 0 = .ok (.aload_n 0, 1) := by decide +kernel
theorem dX3_hasPassed_1 : decode cX3_hasPassed 1 = .ok (.iload_n 1, 1) := by decide +kernel
theorem dX3_hasPassed_2 : decode cX3_hasPassed 2 = .ok (.invokevirtual 128, 3) := by decide +kernel
theorem dX3_hasPassed_5 : decode cX3_hasPassed 5 = .ok (.astore_n 3, 1) := by decide +kernel
theorem dX3_hasPassed_6 : decode cX3_hasPassed 6 = .ok (.aload_n 3, 1) := by decide +kernel
theorem dX3_hasPassed_7 : decode cX3_hasPassed 7 = .ok (.getfield 132, 3) := by decide +kernel
theorem dX3_hasPassed_10 : decode cX3_hasPassed 10 = .ok (.aload_n 0, 1) := by decide +kernel
theorem dX3_hasPassed_11 : decode cX3_hasPassed 11 = .ok (.iload_n 2, 1) := by decide +kernel
theorem dX3_hasPassed_12 : decode cX3_hasPassed 12 = .ok (.invokevirtual 68, 3) := by decide +kernel
theorem dX3_hasPassed_15 : decode cX3_hasPassed 15 = .ok (.getfield 65, 3) := by decide +kernel
theorem dX3_hasPassed_18 : decode cX3_hasPassed 18 = .ok (.invokestatic 86, 3) := by decide +kernel
theorem dX3_hasPassed_21 : decode cX3_hasPassed 21 = .ok (.ireturn, 1) := by decide +kernel
theorem dX3_isEnrolled_0 : decode cX3_isEnrolled 0 = .ok (.aload_n 0, 1) := by decide +kernel
theorem dX3_isEnrolled_1 : decode cX3_isEnrolled 1 = .ok (.iload_n 1, 1) := by decide +kernel
theorem dX3_isEnrolled_2 : decode cX3_isEnrolled 2 = .ok (.invokevirtual 128, 3) := by decide +kernel
theorem dX3_isEnrolled_5 : decode cX3_isEnrolled 5 = .ok (.astore_n 3, 1) := by decide +kernel
theorem dX3_isEnrolled_6 : decode cX3_isEnrolled 6 = .ok (.aload_n 3, 1) := by decide +kernel
theorem dX3_isEnrolled_7 : decode cX3_isEnrolled 7 = .ok (.getfield 135, 3) := by decide +kernel
theorem dX3_isEnrolled_10 : decode cX3_isEnrolled 10 = .ok (.aload_n 0, 1) := by decide +kernel
theorem dX3_isEnrolled_11 : decode cX3_isEnrolled 11 = .ok (.iload_n 2, 1) := by decide +kernel
theorem dX3_isEnrolled_12 : decode cX3_isEnrolled 12 = .ok (.invokevirtual 68, 3) := by decide +kernel
theorem dX3_isEnrolled_15 : decode cX3_isEnrolled 15 = .ok (.getfield 65, 3) := by decide +kernel
theorem dX3_isEnrolled_18 : decode cX3_isEnrolled 18 = .ok (.invokestatic 86, 3) := by decide +kernel
theorem dX3_isEnrolled_21 : decode cX3_isEnrolled 21 = .ok (.ireturn, 1) := by decide +kernel
theorem dX3_credits_0 : decode cX3_credits 0 = .ok (.aload_n 0, 1) := by decide +kernel
theorem dX3_credits_1 : decode cX3_credits 1 = .ok (.aload_n 0, 1) := by decide +kernel
theorem dX3_credits_2 : decode cX3_credits 2 = .ok (.iload_n 1, 1) := by decide +kernel
theorem dX3_credits_3 : decode cX3_credits 3 = .ok (.invokevirtual 128, 3) := by decide +kernel
theorem dX3_credits_6 : decode cX3_credits 6 = .ok (.getfield 135, 3) := by decide +kernel
theorem dX3_credits_9 : decode cX3_credits 9 = .ok (.invokevirtual 152, 3) := by decide +kernel
theorem dX3_credits_12 : decode cX3_credits 12 = .ok (.ireturn, 1) := by decide +kernel
theorem dX3_missing_0 : decode cX3_missing 0 = .ok (.aload_n 0, 1) := by decide +kernel
theorem dX3_missing_1 : decode cX3_missing 1 = .ok (.iload_n 1, 1) := by decide +kernel
theorem dX3_missing_2 : decode cX3_missing 2 = .ok (.invokevirtual 128, 3) := by decide +kernel
theorem dX3_missing_5 : decode cX3_missing 5 = .ok (.astore_n 3, 1) := by decide +kernel
theorem dX3_missing_6 : decode cX3_missing 6 = .ok (.aload_n 0, 1) := by decide +kernel
theorem dX3_missing_7 : decode cX3_missing 7 = .ok (.iload_n 2, 1) := by decide +kernel
theorem dX3_missing_8 : decode cX3_missing 8 = .ok (.invokevirtual 68, 3) := by decide +kernel
theorem dX3_missing_11 : decode cX3_missing 11 = .ok (.getfield 90, 3) := by decide +kernel
theorem dX3_missing_14 : decode cX3_missing 14 = .ok (.aload_n 3, 1) := by decide +kernel
theorem dX3_missing_15 : decode cX3_missing 15 = .ok (.getfield 132, 3) := by decide +kernel
theorem dX3_missing_18 : decode cX3_missing 18 = .ok (.iconst (-1), 1) := by decide +kernel
theorem dX3_missing_19 : decode cX3_missing 19 = .ok (.ixor, 1) := by decide +kernel
theorem dX3_missing_20 : decode cX3_missing 20 = .ok (.iand, 1) := by decide +kernel
theorem dX3_missing_21 : decode cX3_missing 21 = .ok (.invokestatic 103, 3) := by decide +kernel
theorem dX3_missing_24 : decode cX3_missing 24 = .ok (.ireturn, 1) := by decide +kernel
theorem dX3_obstacle_0 : decode cX3_obstacle 0 = .ok (.aload_n 0, 1) := by decide +kernel
theorem dX3_obstacle_1 : decode cX3_obstacle 1 = .ok (.iload_n 1, 1) := by decide +kernel
theorem dX3_obstacle_2 : decode cX3_obstacle 2 = .ok (.invokevirtual 128, 3) := by decide +kernel
theorem dX3_obstacle_5 : decode cX3_obstacle 5 = .ok (.astore_n 3, 1) := by decide +kernel
theorem dX3_obstacle_6 : decode cX3_obstacle 6 = .ok (.aload_n 0, 1) := by decide +kernel
theorem dX3_obstacle_7 : decode cX3_obstacle 7 = .ok (.aload_n 3, 1) := by decide +kernel
theorem dX3_obstacle_8 : decode cX3_obstacle 8 = .ok (.aload_n 0, 1) := by decide +kernel
theorem dX3_obstacle_9 : decode cX3_obstacle 9 = .ok (.iload_n 2, 1) := by decide +kernel
theorem dX3_obstacle_10 : decode cX3_obstacle 10 = .ok (.invokevirtual 68, 3) := by decide +kernel
theorem dX3_obstacle_13 : decode cX3_obstacle 13 = .ok (.aload_n 3, 1) := by decide +kernel
theorem dX3_obstacle_14 : decode cX3_obstacle 14 = .ok (.getfield 135, 3) := by decide +kernel
theorem dX3_obstacle_17 : decode cX3_obstacle 17 = .ok (.invokevirtual 155, 3) := by decide +kernel
theorem dX3_obstacle_20 : decode cX3_obstacle 20 = .ok (.ireturn, 1) := by decide +kernel
theorem dX3_wish_0 : decode cX3_wish 0 = .ok (.aload_n 0, 1) := by decide +kernel
theorem dX3_wish_1 : decode cX3_wish 1 = .ok (.iload_n 1, 1) := by decide +kernel
theorem dX3_wish_2 : decode cX3_wish 2 = .ok (.invokevirtual 128, 3) := by decide +kernel
theorem dX3_wish_5 : decode cX3_wish 5 = .ok (.astore_n 3, 1) := by decide +kernel
theorem dX3_wish_6 : decode cX3_wish 6 = .ok (.aload_n 0, 1) := by decide +kernel
theorem dX3_wish_7 : decode cX3_wish 7 = .ok (.iload_n 2, 1) := by decide +kernel
theorem dX3_wish_8 : decode cX3_wish 8 = .ok (.invokevirtual 68, 3) := by decide +kernel
theorem dX3_wish_11 : decode cX3_wish 11 = .ok (.astore 4, 2) := by decide +kernel
theorem dX3_wish_13 : decode cX3_wish 13 = .ok (.aload_n 3, 1) := by decide +kernel
theorem dX3_wish_14 : decode cX3_wish 14 = .ok (.getfield 132, 3) := by decide +kernel
theorem dX3_wish_17 : decode cX3_wish 17 = .ok (.aload 4, 2) := by decide +kernel
theorem dX3_wish_19 : decode cX3_wish 19 = .ok (.getfield 65, 3) := by decide +kernel
theorem dX3_wish_22 : decode cX3_wish 22 = .ok (.invokestatic 86, 3) := by decide +kernel
theorem dX3_wish_25 : decode cX3_wish 25 = .ok (.ifCond .ne 18, 3) := by decide +kernel
theorem dX3_wish_28 : decode cX3_wish 28 = .ok (.aload_n 3, 1) := by decide +kernel
theorem dX3_wish_29 : decode cX3_wish 29 = .ok (.getfield 135, 3) := by decide +kernel
theorem dX3_wish_32 : decode cX3_wish 32 = .ok (.aload 4, 2) := by decide +kernel
theorem dX3_wish_34 : decode cX3_wish 34 = .ok (.getfield 65, 3) := by decide +kernel
theorem dX3_wish_37 : decode cX3_wish 37 = .ok (.invokestatic 86, 3) := by decide +kernel
theorem dX3_wish_40 : decode cX3_wish 40 = .ok (.ifCond .eq 13, 3) := by decide +kernel
theorem dX3_wish_43 : decode cX3_wish 43 = .ok (.new 51, 3) := by decide +kernel
theorem dX3_wish_46 : decode cX3_wish 46 = .ok (.dup, 1) := by decide +kernel
theorem dX3_wish_47 : decode cX3_wish 47 = .ok (.ldc 159, 2) := by decide +kernel
theorem dX3_wish_49 : decode cX3_wish 49 = .ok (.invokespecial 55, 3) := by decide +kernel
theorem dX3_wish_52 : decode cX3_wish 52 = .ok (.athrow, 1) := by decide +kernel
theorem dX3_wish_53 : decode cX3_wish 53 = .ok (.aload_n 3, 1) := by decide +kernel
theorem dX3_wish_54 : decode cX3_wish 54 = .ok (.getfield 140, 3) := by decide +kernel
theorem dX3_wish_57 : decode cX3_wish 57 = .ok (.iload_n 2, 1) := by decide +kernel
theorem dX3_wish_58 : decode cX3_wish 58 = .ok (.invokevirtual 161, 3) := by decide +kernel
theorem dX3_wish_61 : decode cX3_wish 61 = .ok (.iconst (-1), 1) := by decide +kernel
theorem dX3_wish_62 : decode cX3_wish 62 = .ok (.if_icmp .ne 15, 3) := by decide +kernel
theorem dX3_wish_65 : decode cX3_wish 65 = .ok (.aload_n 3, 1) := by decide +kernel
theorem dX3_wish_66 : decode cX3_wish 66 = .ok (.getfield 140, 3) := by decide +kernel
theorem dX3_wish_69 : decode cX3_wish 69 = .ok (.invokevirtual 164, 3) := by decide +kernel
theorem dX3_wish_72 : decode cX3_wish 72 = .ok (.bipush 6, 2) := by decide +kernel
theorem dX3_wish_74 : decode cX3_wish 74 = .ok (.if_icmp .lt 13, 3) := by decide +kernel
theorem dX3_wish_77 : decode cX3_wish 77 = .ok (.new 51, 3) := by decide +kernel
theorem dX3_wish_80 : decode cX3_wish 80 = .ok (.dup, 1) := by decide +kernel
theorem dX3_wish_81 : decode cX3_wish 81 = .ok (.ldc 168, 2) := by decide +kernel
theorem dX3_wish_83 : decode cX3_wish 83 = .ok (.invokespecial 55, 3) := by decide +kernel
theorem dX3_wish_86 : decode cX3_wish 86 = .ok (.athrow, 1) := by decide +kernel
theorem dX3_wish_87 : decode cX3_wish 87 = .ok (.aload_n 3, 1) := by decide +kernel
theorem dX3_wish_88 : decode cX3_wish 88 = .ok (.getfield 140, 3) := by decide +kernel
theorem dX3_wish_91 : decode cX3_wish 91 = .ok (.iload_n 2, 1) := by decide +kernel
theorem dX3_wish_92 : decode cX3_wish 92 = .ok (.invokevirtual 170, 3) := by decide +kernel
theorem dX3_wish_95 : decode cX3_wish 95 = .ok (.aload_n 3, 1) := by decide +kernel
theorem dX3_wish_96 : decode cX3_wish 96 = .ok (.getfield 140, 3) := by decide +kernel
theorem dX3_wish_99 : decode cX3_wish 99 = .ok (.invokevirtual 164, 3) := by decide +kernel
theorem dX3_wish_102 : decode cX3_wish 102 = .ok (.iconst 1, 1) := by decide +kernel
theorem dX3_wish_103 : decode cX3_wish 103 = .ok (.isub, 1) := by decide +kernel
theorem dX3_wish_104 : decode cX3_wish 104 = .ok (.ireturn, 1) := by decide +kernel
theorem dX3_dropWish_0 : decode cX3_dropWish 0 = .ok (.aload_n 0, 1) := by decide +kernel
theorem dX3_dropWish_1 : decode cX3_dropWish 1 = .ok (.iload_n 1, 1) := by decide +kernel
theorem dX3_dropWish_2 : decode cX3_dropWish 2 = .ok (.invokevirtual 128, 3) := by decide +kernel
theorem dX3_dropWish_5 : decode cX3_dropWish 5 = .ok (.astore_n 3, 1) := by decide +kernel
theorem dX3_dropWish_6 : decode cX3_dropWish 6 = .ok (.aload_n 0, 1) := by decide +kernel
theorem dX3_dropWish_7 : decode cX3_dropWish 7 = .ok (.iload_n 2, 1) := by decide +kernel
theorem dX3_dropWish_8 : decode cX3_dropWish 8 = .ok (.invokevirtual 68, 3) := by decide +kernel
theorem dX3_dropWish_11 : decode cX3_dropWish 11 = .ok (.astore 4, 2) := by decide +kernel
theorem dX3_dropWish_13 : decode cX3_dropWish 13 = .ok (.aload_n 3, 1) := by decide +kernel
theorem dX3_dropWish_14 : decode cX3_dropWish 14 = .ok (.getfield 140, 3) := by decide +kernel
theorem dX3_dropWish_17 : decode cX3_dropWish 17 = .ok (.aload 4, 2) := by decide +kernel
theorem dX3_dropWish_19 : decode cX3_dropWish 19 = .ok (.getfield 65, 3) := by decide +kernel
theorem dX3_dropWish_22 : decode cX3_dropWish 22 = .ok (.invokevirtual 161, 3) := by decide +kernel
theorem dX3_dropWish_25 : decode cX3_dropWish 25 = .ok (.iconst (-1), 1) := by decide +kernel
theorem dX3_dropWish_26 : decode cX3_dropWish 26 = .ok (.if_icmp .ne 13, 3) := by decide +kernel
theorem dX3_dropWish_29 : decode cX3_dropWish 29 = .ok (.new 51, 3) := by decide +kernel
theorem dX3_dropWish_32 : decode cX3_dropWish 32 = .ok (.dup, 1) := by decide +kernel
theorem dX3_dropWish_33 : decode cX3_dropWish 33 = .ok (.ldc 173, 2) := by decide +kernel
theorem dX3_dropWish_35 : decode cX3_dropWish 35 = .ok (.invokespecial 55, 3) := by decide +kernel
theorem dX3_dropWish_38 : decode cX3_dropWish 38 = .ok (.athrow, 1) := by decide +kernel
theorem dX3_dropWish_39 : decode cX3_dropWish 39 = .ok (.aload_n 3, 1) := by decide +kernel
theorem dX3_dropWish_40 : decode cX3_dropWish 40 = .ok (.getfield 140, 3) := by decide +kernel
theorem dX3_dropWish_43 : decode cX3_dropWish 43 = .ok (.iload_n 2, 1) := by decide +kernel
theorem dX3_dropWish_44 : decode cX3_dropWish 44 = .ok (.invokevirtual 144, 3) := by decide +kernel
theorem dX3_dropWish_47 : decode cX3_dropWish 47 = .ok (.aload_n 3, 1) := by decide +kernel
theorem dX3_dropWish_48 : decode cX3_dropWish 48 = .ok (.getfield 140, 3) := by decide +kernel
theorem dX3_dropWish_51 : decode cX3_dropWish 51 = .ok (.invokevirtual 164, 3) := by decide +kernel
theorem dX3_dropWish_54 : decode cX3_dropWish 54 = .ok (.ireturn, 1) := by decide +kernel
theorem dX3_wishes_0 : decode cX3_wishes 0 = .ok (.aload_n 0, 1) := by decide +kernel
theorem dX3_wishes_1 : decode cX3_wishes 1 = .ok (.iload_n 1, 1) := by decide +kernel
theorem dX3_wishes_2 : decode cX3_wishes 2 = .ok (.invokevirtual 128, 3) := by decide +kernel
theorem dX3_wishes_5 : decode cX3_wishes 5 = .ok (.getfield 140, 3) := by decide +kernel
theorem dX3_wishes_8 : decode cX3_wishes 8 = .ok (.invokevirtual 164, 3) := by decide +kernel
theorem dX3_wishes_11 : decode cX3_wishes 11 = .ok (.ireturn, 1) := by decide +kernel
theorem dX3_wishAt_0 : decode cX3_wishAt 0 = .ok (.aload_n 0, 1) := by decide +kernel
theorem dX3_wishAt_1 : decode cX3_wishAt 1 = .ok (.iload_n 1, 1) := by decide +kernel
theorem dX3_wishAt_2 : decode cX3_wishAt 2 = .ok (.invokevirtual 128, 3) := by decide +kernel
theorem dX3_wishAt_5 : decode cX3_wishAt 5 = .ok (.getfield 140, 3) := by decide +kernel
theorem dX3_wishAt_8 : decode cX3_wishAt 8 = .ok (.iload_n 2, 1) := by decide +kernel
theorem dX3_wishAt_9 : decode cX3_wishAt 9 = .ok (.invokestatic 175, 3) := by decide +kernel
theorem dX3_wishAt_12 : decode cX3_wishAt 12 = .ok (.ireturn, 1) := by decide +kernel
theorem dX3_request_0 : decode cX3_request 0 = .ok (.aload_n 0, 1) := by decide +kernel
theorem dX3_request_1 : decode cX3_request 1 = .ok (.iload_n 1, 1) := by decide +kernel
theorem dX3_request_2 : decode cX3_request 2 = .ok (.invokevirtual 128, 3) := by decide +kernel
theorem dX3_request_5 : decode cX3_request 5 = .ok (.astore_n 3, 1) := by decide +kernel
theorem dX3_request_6 : decode cX3_request 6 = .ok (.aload_n 0, 1) := by decide +kernel
theorem dX3_request_7 : decode cX3_request 7 = .ok (.iload_n 2, 1) := by decide +kernel
theorem dX3_request_8 : decode cX3_request 8 = .ok (.invokevirtual 68, 3) := by decide +kernel
theorem dX3_request_11 : decode cX3_request 11 = .ok (.astore 4, 2) := by decide +kernel
theorem dX3_request_13 : decode cX3_request 13 = .ok (.aload 4, 2) := by decide +kernel
theorem dX3_request_15 : decode cX3_request 15 = .ok (.getfield 179, 3) := by decide +kernel
theorem dX3_request_18 : decode cX3_request 18 = .ok (.iload_n 1, 1) := by decide +kernel
theorem dX3_request_19 : decode cX3_request 19 = .ok (.invokevirtual 161, 3) := by decide +kernel
theorem dX3_request_22 : decode cX3_request 22 = .ok (.iconst (-1), 1) := by decide +kernel
theorem dX3_request_23 : decode cX3_request 23 = .ok (.if_icmp .eq 13, 3) := by decide +kernel
theorem dX3_request_26 : decode cX3_request 26 = .ok (.new 51, 3) := by decide +kernel
theorem dX3_request_29 : decode cX3_request 29 = .ok (.dup, 1) := by decide +kernel
theorem dX3_request_30 : decode cX3_request 30 = .ok (.ldc 182, 2) := by decide +kernel
theorem dX3_request_32 : decode cX3_request 32 = .ok (.invokespecial 55, 3) := by decide +kernel
theorem dX3_request_35 : decode cX3_request 35 = .ok (.athrow, 1) := by decide +kernel
theorem dX3_request_36 : decode cX3_request 36 = .ok (.aload_n 0, 1) := by decide +kernel
theorem dX3_request_37 : decode cX3_request 37 = .ok (.aload_n 3, 1) := by decide +kernel
theorem dX3_request_38 : decode cX3_request 38 = .ok (.aload 4, 2) := by decide +kernel
theorem dX3_request_40 : decode cX3_request 40 = .ok (.aload_n 3, 1) := by decide +kernel
theorem dX3_request_41 : decode cX3_request 41 = .ok (.getfield 135, 3) := by decide +kernel
theorem dX3_request_44 : decode cX3_request 44 = .ok (.invokevirtual 155, 3) := by decide +kernel
theorem dX3_request_47 : decode cX3_request 47 = .ok (.ifCond .eq 13, 3) := by decide +kernel
theorem dX3_request_50 : decode cX3_request 50 = .ok (.new 51, 3) := by decide +kernel
theorem dX3_request_53 : decode cX3_request 53 = .ok (.dup, 1) := by decide +kernel
theorem dX3_request_54 : decode cX3_request 54 = .ok (.ldc 184, 2) := by decide +kernel
theorem dX3_request_56 : decode cX3_request 56 = .ok (.invokespecial 55, 3) := by decide +kernel
theorem dX3_request_59 : decode cX3_request 59 = .ok (.athrow, 1) := by decide +kernel
theorem dX3_request_60 : decode cX3_request 60 = .ok (.iconst 0, 1) := by decide +kernel
theorem dX3_request_61 : decode cX3_request 61 = .ok (.istore 5, 2) := by decide +kernel
theorem dX3_request_63 : decode cX3_request 63 = .ok (.aload_n 0, 1) := by decide +kernel
theorem dX3_request_64 : decode cX3_request 64 = .ok (.aload 4, 2) := by decide +kernel
theorem dX3_request_66 : decode cX3_request 66 = .ok (.invokevirtual 114, 3) := by decide +kernel
theorem dX3_request_69 : decode cX3_request 69 = .ok (.ifCond .le 13, 3) := by decide +kernel
theorem dX3_request_72 : decode cX3_request 72 = .ok (.aload_n 0, 1) := by decide +kernel
theorem dX3_request_73 : decode cX3_request 73 = .ok (.aload_n 3, 1) := by decide +kernel
theorem dX3_request_74 : decode cX3_request 74 = .ok (.aload 4, 2) := by decide +kernel
theorem dX3_request_76 : decode cX3_request 76 = .ok (.invokevirtual 186, 3) := by decide +kernel
theorem dX3_request_79 : decode cX3_request 79 = .ok (.goto 22, 3) := by decide +kernel
theorem dX3_request_82 : decode cX3_request 82 = .ok (.aload 4, 2) := by decide +kernel
theorem dX3_request_84 : decode cX3_request 84 = .ok (.getfield 179, 3) := by decide +kernel
theorem dX3_request_87 : decode cX3_request 87 = .ok (.iload_n 1, 1) := by decide +kernel
theorem dX3_request_88 : decode cX3_request 88 = .ok (.invokevirtual 170, 3) := by decide +kernel
theorem dX3_request_91 : decode cX3_request 91 = .ok (.aload 4, 2) := by decide +kernel
theorem dX3_request_93 : decode cX3_request 93 = .ok (.getfield 179, 3) := by decide +kernel
theorem dX3_request_96 : decode cX3_request 96 = .ok (.invokevirtual 164, 3) := by decide +kernel
theorem dX3_request_99 : decode cX3_request 99 = .ok (.istore 5, 2) := by decide +kernel
theorem dX3_request_101 : decode cX3_request 101 = .ok (.aload_n 0, 1) := by decide +kernel
theorem dX3_request_102 : decode cX3_request 102 = .ok (.invokevirtual 80, 3) := by decide +kernel
theorem dX3_request_105 : decode cX3_request 105 = .ok (.iload 5, 2) := by decide +kernel
theorem dX3_request_107 : decode cX3_request 107 = .ok (.ireturn, 1) := by decide +kernel
theorem dX3_drop_0 : decode cX3_drop 0 = .ok (.aload_n 0, 1) := by decide +kernel
theorem dX3_drop_1 : decode cX3_drop 1 = .ok (.iload_n 1, 1) := by decide +kernel
theorem dX3_drop_2 : decode cX3_drop 2 = .ok (.invokevirtual 128, 3) := by decide +kernel
theorem dX3_drop_5 : decode cX3_drop 5 = .ok (.astore_n 3, 1) := by decide +kernel
theorem dX3_drop_6 : decode cX3_drop 6 = .ok (.aload_n 0, 1) := by decide +kernel
theorem dX3_drop_7 : decode cX3_drop 7 = .ok (.iload_n 2, 1) := by decide +kernel
theorem dX3_drop_8 : decode cX3_drop 8 = .ok (.invokevirtual 68, 3) := by decide +kernel
theorem dX3_drop_11 : decode cX3_drop 11 = .ok (.astore 4, 2) := by decide +kernel
theorem dX3_drop_13 : decode cX3_drop 13 = .ok (.aload_n 3, 1) := by decide +kernel
theorem dX3_drop_14 : decode cX3_drop 14 = .ok (.getfield 135, 3) := by decide +kernel
theorem dX3_drop_17 : decode cX3_drop 17 = .ok (.iload_n 2, 1) := by decide +kernel
theorem dX3_drop_18 : decode cX3_drop 18 = .ok (.invokestatic 86, 3) := by decide +kernel
theorem dX3_drop_21 : decode cX3_drop 21 = .ok (.ifCond .ne 13, 3) := by decide +kernel
theorem dX3_drop_24 : decode cX3_drop 24 = .ok (.new 51, 3) := by decide +kernel
theorem dX3_drop_27 : decode cX3_drop 27 = .ok (.dup, 1) := by decide +kernel
theorem dX3_drop_28 : decode cX3_drop 28 = .ok (.ldc 190, 2) := by decide +kernel
theorem dX3_drop_30 : decode cX3_drop 30 = .ok (.invokespecial 55, 3) := by decide +kernel
theorem dX3_drop_33 : decode cX3_drop 33 = .ok (.athrow, 1) := by decide +kernel
theorem dX3_drop_34 : decode cX3_drop 34 = .ok (.aload_n 0, 1) := by decide +kernel
theorem dX3_drop_35 : decode cX3_drop 35 = .ok (.aload_n 3, 1) := by decide +kernel
theorem dX3_drop_36 : decode cX3_drop 36 = .ok (.aload 4, 2) := by decide +kernel
theorem dX3_drop_38 : decode cX3_drop 38 = .ok (.invokevirtual 192, 3) := by decide +kernel
theorem dX3_drop_41 : decode cX3_drop 41 = .ok (.aload_n 0, 1) := by decide +kernel
theorem dX3_drop_42 : decode cX3_drop 42 = .ok (.invokevirtual 80, 3) := by decide +kernel
theorem dX3_drop_45 : decode cX3_drop 45 = .ok (.aload_n 0, 1) := by decide +kernel
theorem dX3_drop_46 : decode cX3_drop 46 = .ok (.aload_n 3, 1) := by decide +kernel
theorem dX3_drop_47 : decode cX3_drop 47 = .ok (.getfield 135, 3) := by decide +kernel
theorem dX3_drop_50 : decode cX3_drop 50 = .ok (.invokevirtual 152, 3) := by decide +kernel
theorem dX3_drop_53 : decode cX3_drop 53 = .ok (.ireturn, 1) := by decide +kernel
theorem dX3_change_0 : decode cX3_change 0 = .ok (.aload_n 0, 1) := by decide +kernel
theorem dX3_change_1 : decode cX3_change 1 = .ok (.iload_n 1, 1) := by decide +kernel
theorem dX3_change_2 : decode cX3_change 2 = .ok (.invokevirtual 128, 3) := by decide +kernel
theorem dX3_change_5 : decode cX3_change 5 = .ok (.astore 4, 2) := by decide +kernel
theorem dX3_change_7 : decode cX3_change 7 = .ok (.aload_n 0, 1) := by decide +kernel
theorem dX3_change_8 : decode cX3_change 8 = .ok (.iload_n 2, 1) := by decide +kernel
theorem dX3_change_9 : decode cX3_change 9 = .ok (.invokevirtual 68, 3) := by decide +kernel
theorem dX3_change_12 : decode cX3_change 12 = .ok (.astore 5, 2) := by decide +kernel
theorem dX3_change_14 : decode cX3_change 14 = .ok (.aload_n 0, 1) := by decide +kernel
theorem dX3_change_15 : decode cX3_change 15 = .ok (.iload_n 3, 1) := by decide +kernel
theorem dX3_change_16 : decode cX3_change 16 = .ok (.invokevirtual 68, 3) := by decide +kernel
theorem dX3_change_19 : decode cX3_change 19 = .ok (.astore 6, 2) := by decide +kernel
theorem dX3_change_21 : decode cX3_change 21 = .ok (.aload 4, 2) := by decide +kernel
theorem dX3_change_23 : decode cX3_change 23 = .ok (.getfield 135, 3) := by decide +kernel
theorem dX3_change_26 : decode cX3_change 26 = .ok (.iload_n 2, 1) := by decide +kernel
theorem dX3_change_27 : decode cX3_change 27 = .ok (.invokestatic 86, 3) := by decide +kernel
theorem dX3_change_30 : decode cX3_change 30 = .ok (.ifCond .eq 8, 3) := by decide +kernel
theorem dX3_change_33 : decode cX3_change 33 = .ok (.iload_n 2, 1) := by decide +kernel
theorem dX3_change_34 : decode cX3_change 34 = .ok (.iload_n 3, 1) := by decide +kernel
theorem dX3_change_35 : decode cX3_change 35 = .ok (.if_icmp .ne 13, 3) := by decide +kernel
theorem dX3_change_38 : decode cX3_change 38 = .ok (.new 51, 3) := by decide +kernel
theorem dX3_change_41 : decode cX3_change 41 = .ok (.dup, 1) := by decide +kernel
theorem dX3_change_42 : decode cX3_change 42 = .ok (.ldc 195, 2) := by decide +kernel
theorem dX3_change_44 : decode cX3_change 44 = .ok (.invokespecial 55, 3) := by decide +kernel
theorem dX3_change_47 : decode cX3_change 47 = .ok (.athrow, 1) := by decide +kernel
theorem dX3_change_48 : decode cX3_change 48 = .ok (.aload_n 0, 1) := by decide +kernel
theorem dX3_change_49 : decode cX3_change 49 = .ok (.aload 4, 2) := by decide +kernel
theorem dX3_change_51 : decode cX3_change 51 = .ok (.aload 6, 2) := by decide +kernel
theorem dX3_change_53 : decode cX3_change 53 = .ok (.aload 4, 2) := by decide +kernel
theorem dX3_change_55 : decode cX3_change 55 = .ok (.getfield 135, 3) := by decide +kernel
theorem dX3_change_58 : decode cX3_change 58 = .ok (.iload_n 2, 1) := by decide +kernel
theorem dX3_change_59 : decode cX3_change 59 = .ok (.invokestatic 95, 3) := by decide +kernel
theorem dX3_change_62 : decode cX3_change 62 = .ok (.iconst (-1), 1) := by decide +kernel
theorem dX3_change_63 : decode cX3_change 63 = .ok (.ixor, 1) := by decide +kernel
theorem dX3_change_64 : decode cX3_change 64 = .ok (.iand, 1) := by decide +kernel
theorem dX3_change_65 : decode cX3_change 65 = .ok (.invokevirtual 155, 3) := by decide +kernel
theorem dX3_change_68 : decode cX3_change 68 = .ok (.ifCond .eq 13, 3) := by decide +kernel
theorem dX3_change_71 : decode cX3_change 71 = .ok (.new 51, 3) := by decide +kernel
theorem dX3_change_74 : decode cX3_change 74 = .ok (.dup, 1) := by decide +kernel
theorem dX3_change_75 : decode cX3_change 75 = .ok (.ldc 184, 2) := by decide +kernel
theorem dX3_change_77 : decode cX3_change 77 = .ok (.invokespecial 55, 3) := by decide +kernel
theorem dX3_change_80 : decode cX3_change 80 = .ok (.athrow, 1) := by decide +kernel
theorem dX3_change_81 : decode cX3_change 81 = .ok (.aload_n 0, 1) := by decide +kernel
theorem dX3_change_82 : decode cX3_change 82 = .ok (.aload 6, 2) := by decide +kernel
theorem dX3_change_84 : decode cX3_change 84 = .ok (.invokevirtual 114, 3) := by decide +kernel
theorem dX3_change_87 : decode cX3_change 87 = .ok (.ifCond .gt 13, 3) := by decide +kernel
theorem dX3_change_90 : decode cX3_change 90 = .ok (.new 51, 3) := by decide +kernel
theorem dX3_change_93 : decode cX3_change 93 = .ok (.dup, 1) := by decide +kernel
theorem dX3_change_94 : decode cX3_change 94 = .ok (.ldc 197, 2) := by decide +kernel
theorem dX3_change_96 : decode cX3_change 96 = .ok (.invokespecial 55, 3) := by decide +kernel
theorem dX3_change_99 : decode cX3_change 99 = .ok (.athrow, 1) := by decide +kernel
theorem dX3_change_100 : decode cX3_change 100 = .ok (.aload_n 0, 1) := by decide +kernel
theorem dX3_change_101 : decode cX3_change 101 = .ok (.aload 4, 2) := by decide +kernel
theorem dX3_change_103 : decode cX3_change 103 = .ok (.aload 5, 2) := by decide +kernel
theorem dX3_change_105 : decode cX3_change 105 = .ok (.invokevirtual 192, 3) := by decide +kernel
theorem dX3_change_108 : decode cX3_change 108 = .ok (.aload_n 0, 1) := by decide +kernel
theorem dX3_change_109 : decode cX3_change 109 = .ok (.aload 4, 2) := by decide +kernel
theorem dX3_change_111 : decode cX3_change 111 = .ok (.aload 6, 2) := by decide +kernel
theorem dX3_change_113 : decode cX3_change 113 = .ok (.invokevirtual 186, 3) := by decide +kernel
theorem dX3_change_116 : decode cX3_change 116 = .ok (.aload_n 0, 1) := by decide +kernel
theorem dX3_change_117 : decode cX3_change 117 = .ok (.invokevirtual 80, 3) := by decide +kernel
theorem dX3_change_120 : decode cX3_change 120 = .ok (.aload_n 0, 1) := by decide +kernel
theorem dX3_change_121 : decode cX3_change 121 = .ok (.aload 4, 2) := by decide +kernel
theorem dX3_change_123 : decode cX3_change 123 = .ok (.getfield 135, 3) := by decide +kernel
theorem dX3_change_126 : decode cX3_change 126 = .ok (.invokevirtual 152, 3) := by decide +kernel
theorem dX3_change_129 : decode cX3_change 129 = .ok (.ireturn, 1) := by decide +kernel
theorem dX3_accept_0 : decode cX3_accept 0 = .ok (.aload_n 0, 1) := by decide +kernel
theorem dX3_accept_1 : decode cX3_accept 1 = .ok (.iload_n 1, 1) := by decide +kernel
theorem dX3_accept_2 : decode cX3_accept 2 = .ok (.invokevirtual 128, 3) := by decide +kernel
theorem dX3_accept_5 : decode cX3_accept 5 = .ok (.astore_n 3, 1) := by decide +kernel
theorem dX3_accept_6 : decode cX3_accept 6 = .ok (.aload_n 0, 1) := by decide +kernel
theorem dX3_accept_7 : decode cX3_accept 7 = .ok (.iload_n 2, 1) := by decide +kernel
theorem dX3_accept_8 : decode cX3_accept 8 = .ok (.invokevirtual 68, 3) := by decide +kernel
theorem dX3_accept_11 : decode cX3_accept 11 = .ok (.astore 4, 2) := by decide +kernel
theorem dX3_accept_13 : decode cX3_accept 13 = .ok (.aload 4, 2) := by decide +kernel
theorem dX3_accept_15 : decode cX3_accept 15 = .ok (.iload_n 1, 1) := by decide +kernel
theorem dX3_accept_16 : decode cX3_accept 16 = .ok (.invokevirtual 199, 3) := by decide +kernel
theorem dX3_accept_19 : decode cX3_accept 19 = .ok (.ifCond .ne 13, 3) := by decide +kernel
theorem dX3_accept_22 : decode cX3_accept 22 = .ok (.new 51, 3) := by decide +kernel
theorem dX3_accept_25 : decode cX3_accept 25 = .ok (.dup, 1) := by decide +kernel
theorem dX3_accept_26 : decode cX3_accept 26 = .ok (.ldc 203, 2) := by decide +kernel
theorem dX3_accept_28 : decode cX3_accept 28 = .ok (.invokespecial 55, 3) := by decide +kernel
theorem dX3_accept_31 : decode cX3_accept 31 = .ok (.athrow, 1) := by decide +kernel
theorem dX3_accept_32 : decode cX3_accept 32 = .ok (.aload_n 0, 1) := by decide +kernel
theorem dX3_accept_33 : decode cX3_accept 33 = .ok (.aload_n 3, 1) := by decide +kernel
theorem dX3_accept_34 : decode cX3_accept 34 = .ok (.aload 4, 2) := by decide +kernel
theorem dX3_accept_36 : decode cX3_accept 36 = .ok (.aload_n 3, 1) := by decide +kernel
theorem dX3_accept_37 : decode cX3_accept 37 = .ok (.getfield 135, 3) := by decide +kernel
theorem dX3_accept_40 : decode cX3_accept 40 = .ok (.invokevirtual 155, 3) := by decide +kernel
theorem dX3_accept_43 : decode cX3_accept 43 = .ok (.ifCond .eq 13, 3) := by decide +kernel
theorem dX3_accept_46 : decode cX3_accept 46 = .ok (.new 51, 3) := by decide +kernel
theorem dX3_accept_49 : decode cX3_accept 49 = .ok (.dup, 1) := by decide +kernel
theorem dX3_accept_50 : decode cX3_accept 50 = .ok (.ldc 184, 2) := by decide +kernel
theorem dX3_accept_52 : decode cX3_accept 52 = .ok (.invokespecial 55, 3) := by decide +kernel
theorem dX3_accept_55 : decode cX3_accept 55 = .ok (.athrow, 1) := by decide +kernel
theorem dX3_accept_56 : decode cX3_accept 56 = .ok (.aload_n 0, 1) := by decide +kernel
theorem dX3_accept_57 : decode cX3_accept 57 = .ok (.aload_n 3, 1) := by decide +kernel
theorem dX3_accept_58 : decode cX3_accept 58 = .ok (.aload 4, 2) := by decide +kernel
theorem dX3_accept_60 : decode cX3_accept 60 = .ok (.invokevirtual 186, 3) := by decide +kernel
theorem dX3_accept_63 : decode cX3_accept 63 = .ok (.aload_n 0, 1) := by decide +kernel
theorem dX3_accept_64 : decode cX3_accept 64 = .ok (.invokevirtual 80, 3) := by decide +kernel
theorem dX3_accept_67 : decode cX3_accept 67 = .ok (.aload_n 0, 1) := by decide +kernel
theorem dX3_accept_68 : decode cX3_accept 68 = .ok (.aload_n 3, 1) := by decide +kernel
theorem dX3_accept_69 : decode cX3_accept 69 = .ok (.getfield 135, 3) := by decide +kernel
theorem dX3_accept_72 : decode cX3_accept 72 = .ok (.invokevirtual 152, 3) := by decide +kernel
theorem dX3_accept_75 : decode cX3_accept 75 = .ok (.ireturn, 1) := by decide +kernel
theorem dX3_leave_0 : decode cX3_leave 0 = .ok (.aload_n 0, 1) := by decide +kernel
theorem dX3_leave_1 : decode cX3_leave 1 = .ok (.iload_n 1, 1) := by decide +kernel
theorem dX3_leave_2 : decode cX3_leave 2 = .ok (.invokevirtual 128, 3) := by decide +kernel
theorem dX3_leave_5 : decode cX3_leave 5 = .ok (.astore_n 3, 1) := by decide +kernel
theorem dX3_leave_6 : decode cX3_leave 6 = .ok (.aload_n 0, 1) := by decide +kernel
theorem dX3_leave_7 : decode cX3_leave 7 = .ok (.iload_n 2, 1) := by decide +kernel
theorem dX3_leave_8 : decode cX3_leave 8 = .ok (.invokevirtual 68, 3) := by decide +kernel
theorem dX3_leave_11 : decode cX3_leave 11 = .ok (.astore 4, 2) := by decide +kernel
theorem dX3_leave_13 : decode cX3_leave 13 = .ok (.aload 4, 2) := by decide +kernel
theorem dX3_leave_15 : decode cX3_leave 15 = .ok (.getfield 179, 3) := by decide +kernel
theorem dX3_leave_18 : decode cX3_leave 18 = .ok (.aload_n 3, 1) := by decide +kernel
theorem dX3_leave_19 : decode cX3_leave 19 = .ok (.getfield 127, 3) := by decide +kernel
theorem dX3_leave_22 : decode cX3_leave 22 = .ok (.invokevirtual 161, 3) := by decide +kernel
theorem dX3_leave_25 : decode cX3_leave 25 = .ok (.iconst (-1), 1) := by decide +kernel
theorem dX3_leave_26 : decode cX3_leave 26 = .ok (.if_icmp .ne 13, 3) := by decide +kernel
theorem dX3_leave_29 : decode cX3_leave 29 = .ok (.new 51, 3) := by decide +kernel
theorem dX3_leave_32 : decode cX3_leave 32 = .ok (.dup, 1) := by decide +kernel
theorem dX3_leave_33 : decode cX3_leave 33 = .ok (.ldc 205, 2) := by decide +kernel
theorem dX3_leave_35 : decode cX3_leave 35 = .ok (.invokespecial 55, 3) := by decide +kernel
theorem dX3_leave_38 : decode cX3_leave 38 = .ok (.athrow, 1) := by decide +kernel
theorem dX3_leave_39 : decode cX3_leave 39 = .ok (.aload 4, 2) := by decide +kernel
theorem dX3_leave_41 : decode cX3_leave 41 = .ok (.iload_n 1, 1) := by decide +kernel
theorem dX3_leave_42 : decode cX3_leave 42 = .ok (.invokevirtual 199, 3) := by decide +kernel
theorem dX3_leave_45 : decode cX3_leave 45 = .ok (.istore 5, 2) := by decide +kernel
theorem dX3_leave_47 : decode cX3_leave 47 = .ok (.aload 4, 2) := by decide +kernel
theorem dX3_leave_49 : decode cX3_leave 49 = .ok (.iload_n 1, 1) := by decide +kernel
theorem dX3_leave_50 : decode cX3_leave 50 = .ok (.invokevirtual 149, 3) := by decide +kernel
theorem dX3_leave_53 : decode cX3_leave 53 = .ok (.aload_n 0, 1) := by decide +kernel
theorem dX3_leave_54 : decode cX3_leave 54 = .ok (.invokevirtual 80, 3) := by decide +kernel
theorem dX3_leave_57 : decode cX3_leave 57 = .ok (.iload 5, 2) := by decide +kernel
theorem dX3_leave_59 : decode cX3_leave 59 = .ok (.ireturn, 1) := by decide +kernel
theorem dX3_advance_0 : decode cX3_advance 0 = .ok (.iload_n 1, 1) := by decide +kernel
theorem dX3_advance_1 : decode cX3_advance 1 = .ok (.iconst 1, 1) := by decide +kernel
theorem dX3_advance_2 : decode cX3_advance 2 = .ok (.bipush 7, 2) := by decide +kernel
theorem dX3_advance_4 : decode cX3_advance 4 = .ok (.invokestatic 39, 3) := by decide +kernel
theorem dX3_advance_7 : decode cX3_advance 7 = .ok (.ifCond .eq 13, 3) := by decide +kernel
theorem dX3_advance_10 : decode cX3_advance 10 = .ok (.new 44, 3) := by decide +kernel
theorem dX3_advance_13 : decode cX3_advance 13 = .ok (.dup, 1) := by decide +kernel
theorem dX3_advance_14 : decode cX3_advance 14 = .ok (.ldc 207, 2) := by decide +kernel
theorem dX3_advance_16 : decode cX3_advance 16 = .ok (.invokespecial 48, 3) := by decide +kernel
theorem dX3_advance_19 : decode cX3_advance 19 = .ok (.athrow, 1) := by decide +kernel
theorem dX3_advance_20 : decode cX3_advance 20 = .ok (.iconst 0, 1) := by decide +kernel
theorem dX3_advance_21 : decode cX3_advance 21 = .ok (.istore_n 2, 1) := by decide +kernel
theorem dX3_advance_22 : decode cX3_advance 22 = .ok (.iconst 0, 1) := by decide +kernel
theorem dX3_advance_23 : decode cX3_advance 23 = .ok (.istore_n 3, 1) := by decide +kernel
theorem dX3_advance_24 : decode cX3_advance 24 = .ok (.iload_n 3, 1) := by decide +kernel
theorem dX3_advance_25 : decode cX3_advance 25 = .ok (.iload_n 1, 1) := by decide +kernel
theorem dX3_advance_26 : decode cX3_advance 26 = .ok (.if_icmp .ge 30, 3) := by decide +kernel
theorem dX3_advance_29 : decode cX3_advance 29 = .ok (.aload_n 0, 1) := by decide +kernel
theorem dX3_advance_30 : decode cX3_advance 30 = .ok (.dup, 1) := by decide +kernel
theorem dX3_advance_31 : decode cX3_advance 31 = .ok (.getfield 32, 3) := by decide +kernel
theorem dX3_advance_34 : decode cX3_advance 34 = .ok (.iconst 1, 1) := by decide +kernel
theorem dX3_advance_35 : decode cX3_advance 35 = .ok (.iadd, 1) := by decide +kernel
theorem dX3_advance_36 : decode cX3_advance 36 = .ok (.putfield 32, 3) := by decide +kernel
theorem dX3_advance_39 : decode cX3_advance 39 = .ok (.iload_n 2, 1) := by decide +kernel
theorem dX3_advance_40 : decode cX3_advance 40 = .ok (.aload_n 0, 1) := by decide +kernel
theorem dX3_advance_41 : decode cX3_advance 41 = .ok (.invokevirtual 209, 3) := by decide +kernel
theorem dX3_advance_44 : decode cX3_advance 44 = .ok (.iadd, 1) := by decide +kernel
theorem dX3_advance_45 : decode cX3_advance 45 = .ok (.istore_n 2, 1) := by decide +kernel
theorem dX3_advance_46 : decode cX3_advance 46 = .ok (.aload_n 0, 1) := by decide +kernel
theorem dX3_advance_47 : decode cX3_advance 47 = .ok (.invokevirtual 80, 3) := by decide +kernel
theorem dX3_advance_50 : decode cX3_advance 50 = .ok (.iinc 3 1, 3) := by decide +kernel
theorem dX3_advance_53 : decode cX3_advance 53 = .ok (.goto (-29), 3) := by decide +kernel
theorem dX3_advance_56 : decode cX3_advance 56 = .ok (.iload_n 2, 1) := by decide +kernel
theorem dX3_advance_57 : decode cX3_advance 57 = .ok (.ireturn, 1) := by decide +kernel
theorem dX3_day_0 : decode cX3_day 0 = .ok (.aload_n 0, 1) := by decide +kernel
theorem dX3_day_1 : decode cX3_day 1 = .ok (.getfield 32, 3) := by decide +kernel
theorem dX3_day_4 : decode cX3_day 4 = .ok (.ireturn, 1) := by decide +kernel
theorem dX3_waiting_0 : decode cX3_waiting 0 = .ok (.aload_n 0, 1) := by decide +kernel
theorem dX3_waiting_1 : decode cX3_waiting 1 = .ok (.iload_n 1, 1) := by decide +kernel
theorem dX3_waiting_2 : decode cX3_waiting 2 = .ok (.invokevirtual 68, 3) := by decide +kernel
theorem dX3_waiting_5 : decode cX3_waiting 5 = .ok (.getfield 179, 3) := by decide +kernel
theorem dX3_waiting_8 : decode cX3_waiting 8 = .ok (.invokevirtual 164, 3) := by decide +kernel
theorem dX3_waiting_11 : decode cX3_waiting 11 = .ok (.ireturn, 1) := by decide +kernel
theorem dX3_waitingAt_0 : decode cX3_waitingAt 0 = .ok (.aload_n 0, 1) := by decide +kernel
theorem dX3_waitingAt_1 : decode cX3_waitingAt 1 = .ok (.iload_n 1, 1) := by decide +kernel
theorem dX3_waitingAt_2 : decode cX3_waitingAt 2 = .ok (.invokevirtual 68, 3) := by decide +kernel
theorem dX3_waitingAt_5 : decode cX3_waitingAt 5 = .ok (.getfield 179, 3) := by decide +kernel
theorem dX3_waitingAt_8 : decode cX3_waitingAt 8 = .ok (.iload_n 2, 1) := by decide +kernel
theorem dX3_waitingAt_9 : decode cX3_waitingAt 9 = .ok (.invokestatic 175, 3) := by decide +kernel
theorem dX3_waitingAt_12 : decode cX3_waitingAt 12 = .ok (.ireturn, 1) := by decide +kernel
theorem dX3_offerDays_0 : decode cX3_offerDays 0 = .ok (.aload_n 0, 1) := by decide +kernel
theorem dX3_offerDays_1 : decode cX3_offerDays 1 = .ok (.iload_n 1, 1) := by decide +kernel
theorem dX3_offerDays_2 : decode cX3_offerDays 2 = .ok (.invokevirtual 128, 3) := by decide +kernel
theorem dX3_offerDays_5 : decode cX3_offerDays 5 = .ok (.astore_n 3, 1) := by decide +kernel
theorem dX3_offerDays_6 : decode cX3_offerDays 6 = .ok (.aload_n 0, 1) := by decide +kernel
theorem dX3_offerDays_7 : decode cX3_offerDays 7 = .ok (.iload_n 2, 1) := by decide +kernel
theorem dX3_offerDays_8 : decode cX3_offerDays 8 = .ok (.invokevirtual 68, 3) := by decide +kernel
theorem dX3_offerDays_11 : decode cX3_offerDays 11 = .ok (.astore 4, 2) := by decide +kernel
theorem dX3_offerDays_13 : decode cX3_offerDays 13 = .ok (.aload 4, 2) := by decide +kernel
theorem dX3_offerDays_15 : decode cX3_offerDays 15 = .ok (.aload_n 3, 1) := by decide +kernel
theorem dX3_offerDays_16 : decode cX3_offerDays 16 = .ok (.getfield 127, 3) := by decide +kernel
theorem dX3_offerDays_19 : decode cX3_offerDays 19 = .ok (.invokevirtual 199, 3) := by decide +kernel
theorem dX3_offerDays_22 : decode cX3_offerDays 22 = .ok (.ifCond .eq 16, 3) := by decide +kernel
theorem dX3_offerDays_25 : decode cX3_offerDays 25 = .ok (.aload_n 0, 1) := by decide +kernel
theorem dX3_offerDays_26 : decode cX3_offerDays 26 = .ok (.aload 4, 2) := by decide +kernel
theorem dX3_offerDays_28 : decode cX3_offerDays 28 = .ok (.aload_n 3, 1) := by decide +kernel
theorem dX3_offerDays_29 : decode cX3_offerDays 29 = .ok (.getfield 127, 3) := by decide +kernel
theorem dX3_offerDays_32 : decode cX3_offerDays 32 = .ok (.invokevirtual 212, 3) := by decide +kernel
theorem dX3_offerDays_35 : decode cX3_offerDays 35 = .ok (.goto 4, 3) := by decide +kernel
theorem dX3_offerDays_38 : decode cX3_offerDays 38 = .ok (.iconst 0, 1) := by decide +kernel
theorem dX3_offerDays_39 : decode cX3_offerDays 39 = .ok (.ireturn, 1) := by decide +kernel
theorem dX3_runLottery_0 : decode cX3_runLottery 0 = .ok (.iload_n 1, 1) := by decide +kernel
theorem dX3_runLottery_1 : decode cX3_runLottery 1 = .ok (.ifCond .ge 13, 3) := by decide +kernel
theorem dX3_runLottery_4 : decode cX3_runLottery 4 = .ok (.new 44, 3) := by decide +kernel
theorem dX3_runLottery_7 : decode cX3_runLottery 7 = .ok (.dup, 1) := by decide +kernel
theorem dX3_runLottery_8 : decode cX3_runLottery 8 = .ok (.ldc 216, 2) := by decide +kernel
theorem dX3_runLottery_10 : decode cX3_runLottery 10 = .ok (.invokespecial 48, 3) := by decide +kernel
theorem dX3_runLottery_13 : decode cX3_runLottery 13 = .ok (.athrow, 1) := by decide +kernel
theorem dX3_runLottery_14 : decode cX3_runLottery 14 = .ok (.aload_n 0, 1) := by decide +kernel
theorem dX3_runLottery_15 : decode cX3_runLottery 15 = .ok (.iload_n 1, 1) := by decide +kernel
theorem dX3_runLottery_16 : decode cX3_runLottery 16 = .ok (.invokevirtual 218, 3) := by decide +kernel
theorem dX3_runLottery_19 : decode cX3_runLottery 19 = .ok (.aload_n 0, 1) := by decide +kernel
theorem dX3_runLottery_20 : decode cX3_runLottery 20 = .ok (.invokevirtual 221, 3) := by decide +kernel
theorem dX3_runLottery_23 : decode cX3_runLottery 23 = .ok (.iconst 0, 1) := by decide +kernel
theorem dX3_runLottery_24 : decode cX3_runLottery 24 = .ok (.istore_n 2, 1) := by decide +kernel
theorem dX3_runLottery_25 : decode cX3_runLottery 25 = .ok (.iconst 0, 1) := by decide +kernel
theorem dX3_runLottery_26 : decode cX3_runLottery 26 = .ok (.istore_n 3, 1) := by decide +kernel
theorem dX3_runLottery_27 : decode cX3_runLottery 27 = .ok (.iload_n 3, 1) := by decide +kernel
theorem dX3_runLottery_28 : decode cX3_runLottery 28 = .ok (.aload_n 0, 1) := by decide +kernel
theorem dX3_runLottery_29 : decode cX3_runLottery 29 = .ok (.getfield 29, 3) := by decide +kernel
theorem dX3_runLottery_32 : decode cX3_runLottery 32 = .ok (.if_icmp .ge 32, 3) := by decide +kernel
theorem dX3_runLottery_35 : decode cX3_runLottery 35 = .ok (.aload_n 0, 1) := by decide +kernel
theorem dX3_runLottery_36 : decode cX3_runLottery 36 = .ok (.aload_n 0, 1) := by decide +kernel
theorem dX3_runLottery_37 : decode cX3_runLottery 37 = .ok (.aload_n 0, 1) := by decide +kernel
theorem dX3_runLottery_38 : decode cX3_runLottery 38 = .ok (.getfield 35, 3) := by decide +kernel
theorem dX3_runLottery_41 : decode cX3_runLottery 41 = .ok (.iload_n 3, 1) := by decide +kernel
theorem dX3_runLottery_42 : decode cX3_runLottery 42 = .ok (.iaload, 1) := by decide +kernel
theorem dX3_runLottery_43 : decode cX3_runLottery 43 = .ok (.bipush 16, 2) := by decide +kernel
theorem dX3_runLottery_45 : decode cX3_runLottery 45 = .ok (.irem, 1) := by decide +kernel
theorem dX3_runLottery_46 : decode cX3_runLottery 46 = .ok (.invokevirtual 128, 3) := by decide +kernel
theorem dX3_runLottery_49 : decode cX3_runLottery 49 = .ok (.invokevirtual 224, 3) := by decide +kernel
theorem dX3_runLottery_52 : decode cX3_runLottery 52 = .ok (.ifCond .eq 6, 3) := by decide +kernel
theorem dX3_runLottery_55 : decode cX3_runLottery 55 = .ok (.iinc 2 1, 3) := by decide +kernel
theorem dX3_runLottery_58 : decode cX3_runLottery 58 = .ok (.iinc 3 1, 3) := by decide +kernel
theorem dX3_runLottery_61 : decode cX3_runLottery 61 = .ok (.goto (-34), 3) := by decide +kernel
theorem dX3_runLottery_64 : decode cX3_runLottery 64 = .ok (.aload_n 0, 1) := by decide +kernel
theorem dX3_runLottery_65 : decode cX3_runLottery 65 = .ok (.invokevirtual 80, 3) := by decide +kernel
theorem dX3_runLottery_68 : decode cX3_runLottery 68 = .ok (.iload_n 2, 1) := by decide +kernel
theorem dX3_runLottery_69 : decode cX3_runLottery 69 = .ok (.ireturn, 1) := by decide +kernel
theorem dX3_lotteryNumber_0 : decode cX3_lotteryNumber 0 = .ok (.aload_n 0, 1) := by decide +kernel
theorem dX3_lotteryNumber_1 : decode cX3_lotteryNumber 1 = .ok (.iload_n 1, 1) := by decide +kernel
theorem dX3_lotteryNumber_2 : decode cX3_lotteryNumber 2 = .ok (.invokevirtual 128, 3) := by decide +kernel
theorem dX3_lotteryNumber_5 : decode cX3_lotteryNumber 5 = .ok (.getfield 228, 3) := by decide +kernel
theorem dX3_lotteryNumber_8 : decode cX3_lotteryNumber 8 = .ok (.ireturn, 1) := by decide +kernel
theorem dX3_putUp_0 : decode cX3_putUp 0 = .ok (.aload_n 0, 1) := by decide +kernel
theorem dX3_putUp_1 : decode cX3_putUp 1 = .ok (.iload_n 1, 1) := by decide +kernel
theorem dX3_putUp_2 : decode cX3_putUp 2 = .ok (.invokevirtual 128, 3) := by decide +kernel
theorem dX3_putUp_5 : decode cX3_putUp 5 = .ok (.astore_n 3, 1) := by decide +kernel
theorem dX3_putUp_6 : decode cX3_putUp 6 = .ok (.aload_n 0, 1) := by decide +kernel
theorem dX3_putUp_7 : decode cX3_putUp 7 = .ok (.iload_n 2, 1) := by decide +kernel
theorem dX3_putUp_8 : decode cX3_putUp 8 = .ok (.invokevirtual 68, 3) := by decide +kernel
theorem dX3_putUp_11 : decode cX3_putUp 11 = .ok (.astore 4, 2) := by decide +kernel
theorem dX3_putUp_13 : decode cX3_putUp 13 = .ok (.aload_n 3, 1) := by decide +kernel
theorem dX3_putUp_14 : decode cX3_putUp 14 = .ok (.getfield 135, 3) := by decide +kernel
theorem dX3_putUp_17 : decode cX3_putUp 17 = .ok (.aload 4, 2) := by decide +kernel
theorem dX3_putUp_19 : decode cX3_putUp 19 = .ok (.getfield 65, 3) := by decide +kernel
theorem dX3_putUp_22 : decode cX3_putUp 22 = .ok (.invokestatic 86, 3) := by decide +kernel
theorem dX3_putUp_25 : decode cX3_putUp 25 = .ok (.ifCond .ne 13, 3) := by decide +kernel
theorem dX3_putUp_28 : decode cX3_putUp 28 = .ok (.new 51, 3) := by decide +kernel
theorem dX3_putUp_31 : decode cX3_putUp 31 = .ok (.dup, 1) := by decide +kernel
theorem dX3_putUp_32 : decode cX3_putUp 32 = .ok (.ldc 190, 2) := by decide +kernel
theorem dX3_putUp_34 : decode cX3_putUp 34 = .ok (.invokespecial 55, 3) := by decide +kernel
theorem dX3_putUp_37 : decode cX3_putUp 37 = .ok (.athrow, 1) := by decide +kernel
theorem dX3_putUp_38 : decode cX3_putUp 38 = .ok (.aload_n 3, 1) := by decide +kernel
theorem dX3_putUp_39 : decode cX3_putUp 39 = .ok (.getfield 231, 3) := by decide +kernel
theorem dX3_putUp_42 : decode cX3_putUp 42 = .ok (.istore 5, 2) := by decide +kernel
theorem dX3_putUp_44 : decode cX3_putUp 44 = .ok (.aload_n 3, 1) := by decide +kernel
theorem dX3_putUp_45 : decode cX3_putUp 45 = .ok (.iload_n 2, 1) := by decide +kernel
theorem dX3_putUp_46 : decode cX3_putUp 46 = .ok (.putfield 231, 3) := by decide +kernel
theorem dX3_putUp_49 : decode cX3_putUp 49 = .ok (.iload 5, 2) := by decide +kernel
theorem dX3_putUp_51 : decode cX3_putUp 51 = .ok (.ireturn, 1) := by decide +kernel
theorem dX3_withdraw_0 : decode cX3_withdraw 0 = .ok (.aload_n 0, 1) := by decide +kernel
theorem dX3_withdraw_1 : decode cX3_withdraw 1 = .ok (.iload_n 1, 1) := by decide +kernel
theorem dX3_withdraw_2 : decode cX3_withdraw 2 = .ok (.invokevirtual 128, 3) := by decide +kernel
theorem dX3_withdraw_5 : decode cX3_withdraw 5 = .ok (.astore_n 2, 1) := by decide +kernel
theorem dX3_withdraw_6 : decode cX3_withdraw 6 = .ok (.aload_n 2, 1) := by decide +kernel
theorem dX3_withdraw_7 : decode cX3_withdraw 7 = .ok (.getfield 231, 3) := by decide +kernel
theorem dX3_withdraw_10 : decode cX3_withdraw 10 = .ok (.istore_n 3, 1) := by decide +kernel
theorem dX3_withdraw_11 : decode cX3_withdraw 11 = .ok (.aload_n 2, 1) := by decide +kernel
theorem dX3_withdraw_12 : decode cX3_withdraw 12 = .ok (.iconst (-1), 1) := by decide +kernel
theorem dX3_withdraw_13 : decode cX3_withdraw 13 = .ok (.putfield 231, 3) := by decide +kernel
theorem dX3_withdraw_16 : decode cX3_withdraw 16 = .ok (.iload_n 3, 1) := by decide +kernel
theorem dX3_withdraw_17 : decode cX3_withdraw 17 = .ok (.ireturn, 1) := by decide +kernel
theorem dX3_placeUp_0 : decode cX3_placeUp 0 = .ok (.aload_n 0, 1) := by decide +kernel
theorem dX3_placeUp_1 : decode cX3_placeUp 1 = .ok (.iload_n 1, 1) := by decide +kernel
theorem dX3_placeUp_2 : decode cX3_placeUp 2 = .ok (.invokevirtual 128, 3) := by decide +kernel
theorem dX3_placeUp_5 : decode cX3_placeUp 5 = .ok (.getfield 231, 3) := by decide +kernel
theorem dX3_placeUp_8 : decode cX3_placeUp 8 = .ok (.ireturn, 1) := by decide +kernel
theorem dX3_pointsTo_0 : decode cX3_pointsTo 0 = .ok (.aload_n 0, 1) := by decide +kernel
theorem dX3_pointsTo_1 : decode cX3_pointsTo 1 = .ok (.iload_n 1, 1) := by decide +kernel
theorem dX3_pointsTo_2 : decode cX3_pointsTo 2 = .ok (.invokevirtual 128, 3) := by decide +kernel
theorem dX3_pointsTo_5 : decode cX3_pointsTo 5 = .ok (.astore_n 2, 1) := by decide +kernel
theorem dX3_pointsTo_6 : decode cX3_pointsTo 6 = .ok (.aload_n 2, 1) := by decide +kernel
theorem dX3_pointsTo_7 : decode cX3_pointsTo 7 = .ok (.getfield 231, 3) := by decide +kernel
theorem dX3_pointsTo_10 : decode cX3_pointsTo 10 = .ok (.iconst (-1), 1) := by decide +kernel
theorem dX3_pointsTo_11 : decode cX3_pointsTo 11 = .ok (.if_icmp .ne 13, 3) := by decide +kernel
theorem dX3_pointsTo_14 : decode cX3_pointsTo 14 = .ok (.new 51, 3) := by decide +kernel
theorem dX3_pointsTo_17 : decode cX3_pointsTo 17 = .ok (.dup, 1) := by decide +kernel
theorem dX3_pointsTo_18 : decode cX3_pointsTo 18 = .ok (.ldc 234, 2) := by decide +kernel
theorem dX3_pointsTo_20 : decode cX3_pointsTo 20 = .ok (.invokespecial 55, 3) := by decide +kernel
theorem dX3_pointsTo_23 : decode cX3_pointsTo 23 = .ok (.athrow, 1) := by decide +kernel
theorem dX3_pointsTo_24 : decode cX3_pointsTo 24 = .ok (.aload_n 0, 1) := by decide +kernel
theorem dX3_pointsTo_25 : decode cX3_pointsTo 25 = .ok (.aload_n 2, 1) := by decide +kernel
theorem dX3_pointsTo_26 : decode cX3_pointsTo 26 = .ok (.aload_n 0, 1) := by decide +kernel
theorem dX3_pointsTo_27 : decode cX3_pointsTo 27 = .ok (.invokevirtual 236, 3) := by decide +kernel
theorem dX3_pointsTo_30 : decode cX3_pointsTo 30 = .ok (.invokevirtual 239, 3) := by decide +kernel
theorem dX3_pointsTo_33 : decode cX3_pointsTo 33 = .ok (.ireturn, 1) := by decide +kernel
theorem dX3_runExchange_0 : decode cX3_runExchange 0 = .ok (.aload_n 0, 1) := by decide +kernel
theorem dX3_runExchange_1 : decode cX3_runExchange 1 = .ok (.invokevirtual 236, 3) := by decide +kernel
theorem dX3_runExchange_4 : decode cX3_runExchange 4 = .ok (.istore_n 1, 1) := by decide +kernel
theorem dX3_runExchange_5 : decode cX3_runExchange 5 = .ok (.iload_n 1, 1) := by decide +kernel
theorem dX3_runExchange_6 : decode cX3_runExchange 6 = .ok (.istore_n 2, 1) := by decide +kernel
theorem dX3_runExchange_7 : decode cX3_runExchange 7 = .ok (.iconst 0, 1) := by decide +kernel
theorem dX3_runExchange_8 : decode cX3_runExchange 8 = .ok (.istore_n 3, 1) := by decide +kernel
theorem dX3_runExchange_9 : decode cX3_runExchange 9 = .ok (.iload_n 3, 1) := by decide +kernel
theorem dX3_runExchange_10 : decode cX3_runExchange 10 = .ok (.aload_n 0, 1) := by decide +kernel
theorem dX3_runExchange_11 : decode cX3_runExchange 11 = .ok (.getfield 29, 3) := by decide +kernel
theorem dX3_runExchange_14 : decode cX3_runExchange 14 = .ok (.if_icmp .ge 28, 3) := by decide +kernel
theorem dX3_runExchange_17 : decode cX3_runExchange 17 = .ok (.iload_n 2, 1) := by decide +kernel
theorem dX3_runExchange_18 : decode cX3_runExchange 18 = .ok (.ifCond .eq 24, 3) := by decide +kernel
theorem dX3_runExchange_21 : decode cX3_runExchange 21 = .ok (.aload_n 0, 1) := by decide +kernel
theorem dX3_runExchange_22 : decode cX3_runExchange 22 = .ok (.iload_n 2, 1) := by decide +kernel
theorem dX3_runExchange_23 : decode cX3_runExchange 23 = .ok (.invokevirtual 243, 3) := by decide +kernel
theorem dX3_runExchange_26 : decode cX3_runExchange 26 = .ok (.iload_n 2, 1) := by decide +kernel
theorem dX3_runExchange_27 : decode cX3_runExchange 27 = .ok (.aload_n 0, 1) := by decide +kernel
theorem dX3_runExchange_28 : decode cX3_runExchange 28 = .ok (.iload_n 2, 1) := by decide +kernel
theorem dX3_runExchange_29 : decode cX3_runExchange 29 = .ok (.invokevirtual 246, 3) := by decide +kernel
theorem dX3_runExchange_32 : decode cX3_runExchange 32 = .ok (.iconst (-1), 1) := by decide +kernel
theorem dX3_runExchange_33 : decode cX3_runExchange 33 = .ok (.ixor, 1) := by decide +kernel
theorem dX3_runExchange_34 : decode cX3_runExchange 34 = .ok (.iand, 1) := by decide +kernel
theorem dX3_runExchange_35 : decode cX3_runExchange 35 = .ok (.istore_n 2, 1) := by decide +kernel
theorem dX3_runExchange_36 : decode cX3_runExchange 36 = .ok (.iinc 3 1, 3) := by decide +kernel
theorem dX3_runExchange_39 : decode cX3_runExchange 39 = .ok (.goto (-30), 3) := by decide +kernel
theorem dX3_runExchange_42 : decode cX3_runExchange 42 = .ok (.aload_n 0, 1) := by decide +kernel
theorem dX3_runExchange_43 : decode cX3_runExchange 43 = .ok (.iload_n 1, 1) := by decide +kernel
theorem dX3_runExchange_44 : decode cX3_runExchange 44 = .ok (.invokevirtual 249, 3) := by decide +kernel
theorem dX3_runExchange_47 : decode cX3_runExchange 47 = .ok (.istore_n 3, 1) := by decide +kernel
theorem dX3_runExchange_48 : decode cX3_runExchange 48 = .ok (.aload_n 0, 1) := by decide +kernel
theorem dX3_runExchange_49 : decode cX3_runExchange 49 = .ok (.invokevirtual 80, 3) := by decide +kernel
theorem dX3_runExchange_52 : decode cX3_runExchange 52 = .ok (.iload_n 3, 1) := by decide +kernel
theorem dX3_runExchange_53 : decode cX3_runExchange 53 = .ok (.ireturn, 1) := by decide +kernel
theorem dX3_isOutside_0 : decode cX3_isOutside 0 = .ok (.iload_n 0, 1) := by decide +kernel
theorem dX3_isOutside_1 : decode cX3_isOutside 1 = .ok (.iload_n 1, 1) := by decide +kernel
theorem dX3_isOutside_2 : decode cX3_isOutside 2 = .ok (.if_icmp .lt 8, 3) := by decide +kernel
theorem dX3_isOutside_5 : decode cX3_isOutside 5 = .ok (.iload_n 0, 1) := by decide +kernel
theorem dX3_isOutside_6 : decode cX3_isOutside 6 = .ok (.iload_n 2, 1) := by decide +kernel
theorem dX3_isOutside_7 : decode cX3_isOutside 7 = .ok (.if_icmp .le 7, 3) := by decide +kernel
theorem dX3_isOutside_10 : decode cX3_isOutside 10 = .ok (.iconst 1, 1) := by decide +kernel
theorem dX3_isOutside_11 : decode cX3_isOutside 11 = .ok (.goto 4, 3) := by decide +kernel
theorem dX3_isOutside_14 : decode cX3_isOutside 14 = .ok (.iconst 0, 1) := by decide +kernel
theorem dX3_isOutside_15 : decode cX3_isOutside 15 = .ok (.ireturn, 1) := by decide +kernel
theorem dX3_bit_0 : decode cX3_bit 0 = .ok (.iconst 1, 1) := by decide +kernel
theorem dX3_bit_1 : decode cX3_bit 1 = .ok (.iload_n 0, 1) := by decide +kernel
theorem dX3_bit_2 : decode cX3_bit 2 = .ok (.ishl, 1) := by decide +kernel
theorem dX3_bit_3 : decode cX3_bit 3 = .ok (.ireturn, 1) := by decide +kernel
theorem dX3_isIn_0 : decode cX3_isIn 0 = .ok (.iload_n 0, 1) := by decide +kernel
theorem dX3_isIn_1 : decode cX3_isIn 1 = .ok (.iconst 1, 1) := by decide +kernel
theorem dX3_isIn_2 : decode cX3_isIn 2 = .ok (.iload_n 1, 1) := by decide +kernel
theorem dX3_isIn_3 : decode cX3_isIn 3 = .ok (.ishl, 1) := by decide +kernel
theorem dX3_isIn_4 : decode cX3_isIn 4 = .ok (.iand, 1) := by decide +kernel
theorem dX3_isIn_5 : decode cX3_isIn 5 = .ok (.ifCond .eq 7, 3) := by decide +kernel
theorem dX3_isIn_8 : decode cX3_isIn 8 = .ok (.iconst 1, 1) := by decide +kernel
theorem dX3_isIn_9 : decode cX3_isIn 9 = .ok (.goto 4, 3) := by decide +kernel
theorem dX3_isIn_12 : decode cX3_isIn 12 = .ok (.iconst 0, 1) := by decide +kernel
theorem dX3_isIn_13 : decode cX3_isIn 13 = .ok (.ireturn, 1) := by decide +kernel
theorem dX3_courseAt_0 : decode cX3_courseAt 0 = .ok (.iload_n 1, 1) := by decide +kernel
theorem dX3_courseAt_1 : decode cX3_courseAt 1 = .ok (.ifCond .lt 11, 3) := by decide +kernel
theorem dX3_courseAt_4 : decode cX3_courseAt 4 = .ok (.iload_n 1, 1) := by decide +kernel
theorem dX3_courseAt_5 : decode cX3_courseAt 5 = .ok (.aload_n 0, 1) := by decide +kernel
theorem dX3_courseAt_6 : decode cX3_courseAt 6 = .ok (.getfield 25, 3) := by decide +kernel
theorem dX3_courseAt_9 : decode cX3_courseAt 9 = .ok (.if_icmp .lt 13, 3) := by decide +kernel
theorem dX3_courseAt_12 : decode cX3_courseAt 12 = .ok (.new 252, 3) := by decide +kernel
theorem dX3_courseAt_15 : decode cX3_courseAt 15 = .ok (.dup, 1) := by decide +kernel
theorem dX3_courseAt_16 : decode cX3_courseAt 16 = .ok (.ldc 254, 2) := by decide +kernel
theorem dX3_courseAt_18 : decode cX3_courseAt 18 = .ok (.invokespecial 256, 3) := by decide +kernel
theorem dX3_courseAt_21 : decode cX3_courseAt 21 = .ok (.athrow, 1) := by decide +kernel
theorem dX3_courseAt_22 : decode cX3_courseAt 22 = .ok (.aload_n 0, 1) := by decide +kernel
theorem dX3_courseAt_23 : decode cX3_courseAt 23 = .ok (.getfield 11, 3) := by decide +kernel
theorem dX3_courseAt_26 : decode cX3_courseAt 26 = .ok (.iload_n 1, 1) := by decide +kernel
theorem dX3_courseAt_27 : decode cX3_courseAt 27 = .ok (.aaload, 1) := by decide +kernel
theorem dX3_courseAt_28 : decode cX3_courseAt 28 = .ok (.areturn, 1) := by decide +kernel
theorem dX3_studentAt_0 : decode cX3_studentAt 0 = .ok (.iload_n 1, 1) := by decide +kernel
theorem dX3_studentAt_1 : decode cX3_studentAt 1 = .ok (.ifCond .lt 11, 3) := by decide +kernel
theorem dX3_studentAt_4 : decode cX3_studentAt 4 = .ok (.iload_n 1, 1) := by decide +kernel
theorem dX3_studentAt_5 : decode cX3_studentAt 5 = .ok (.aload_n 0, 1) := by decide +kernel
theorem dX3_studentAt_6 : decode cX3_studentAt 6 = .ok (.getfield 29, 3) := by decide +kernel
theorem dX3_studentAt_9 : decode cX3_studentAt 9 = .ok (.if_icmp .lt 14, 3) := by decide +kernel
theorem dX3_studentAt_12 : decode cX3_studentAt 12 = .ok (.new 252, 3) := by decide +kernel
theorem dX3_studentAt_15 : decode cX3_studentAt 15 = .ok (.dup, 1) := by decide +kernel
theorem dX3_studentAt_16 : decode cX3_studentAt 16 = .ok (.ldc_w 257, 3) := by decide +kernel
theorem dX3_studentAt_19 : decode cX3_studentAt 19 = .ok (.invokespecial 256, 3) := by decide +kernel
theorem dX3_studentAt_22 : decode cX3_studentAt 22 = .ok (.athrow, 1) := by decide +kernel
theorem dX3_studentAt_23 : decode cX3_studentAt 23 = .ok (.aload_n 0, 1) := by decide +kernel
theorem dX3_studentAt_24 : decode cX3_studentAt 24 = .ok (.getfield 20, 3) := by decide +kernel
theorem dX3_studentAt_27 : decode cX3_studentAt 27 = .ok (.iload_n 1, 1) := by decide +kernel
theorem dX3_studentAt_28 : decode cX3_studentAt 28 = .ok (.aaload, 1) := by decide +kernel
theorem dX3_studentAt_29 : decode cX3_studentAt 29 = .ok (.areturn, 1) := by decide +kernel
theorem dX3_foundAt_0 : decode cX3_foundAt 0 = .ok (.aload_n 0, 1) := by decide +kernel
theorem dX3_foundAt_1 : decode cX3_foundAt 1 = .ok (.iload_n 1, 1) := by decide +kernel
theorem dX3_foundAt_2 : decode cX3_foundAt 2 = .ok (.invokevirtual 259, 3) := by decide +kernel
theorem dX3_foundAt_5 : decode cX3_foundAt 5 = .ok (.istore_n 2, 1) := by decide +kernel
theorem dX3_foundAt_6 : decode cX3_foundAt 6 = .ok (.iload_n 2, 1) := by decide +kernel
theorem dX3_foundAt_7 : decode cX3_foundAt 7 = .ok (.iconst (-1), 1) := by decide +kernel
theorem dX3_foundAt_8 : decode cX3_foundAt 8 = .ok (.if_icmp .ne 14, 3) := by decide +kernel
theorem dX3_foundAt_11 : decode cX3_foundAt 11 = .ok (.new 252, 3) := by decide +kernel
theorem dX3_foundAt_14 : decode cX3_foundAt 14 = .ok (.dup, 1) := by decide +kernel
theorem dX3_foundAt_15 : decode cX3_foundAt 15 = .ok (.ldc_w 262, 3) := by decide +kernel
theorem dX3_foundAt_18 : decode cX3_foundAt 18 = .ok (.invokespecial 256, 3) := by decide +kernel
theorem dX3_foundAt_21 : decode cX3_foundAt 21 = .ok (.athrow, 1) := by decide +kernel
theorem dX3_foundAt_22 : decode cX3_foundAt 22 = .ok (.iload_n 2, 1) := by decide +kernel
theorem dX3_foundAt_23 : decode cX3_foundAt 23 = .ok (.ireturn, 1) := by decide +kernel
theorem dX3_spreadRequired_0 : decode cX3_spreadRequired 0 = .ok (.iconst 0, 1) := by decide +kernel
theorem dX3_spreadRequired_1 : decode cX3_spreadRequired 1 = .ok (.istore_n 3, 1) := by decide +kernel
theorem dX3_spreadRequired_2 : decode cX3_spreadRequired 2 = .ok (.iload_n 3, 1) := by decide +kernel
theorem dX3_spreadRequired_3 : decode cX3_spreadRequired 3 = .ok (.aload_n 0, 1) := by decide +kernel
theorem dX3_spreadRequired_4 : decode cX3_spreadRequired 4 = .ok (.getfield 25, 3) := by decide +kernel
theorem dX3_spreadRequired_7 : decode cX3_spreadRequired 7 = .ok (.if_icmp .ge 49, 3) := by decide +kernel
theorem dX3_spreadRequired_10 : decode cX3_spreadRequired 10 = .ok (.aload_n 0, 1) := by decide +kernel
theorem dX3_spreadRequired_11 : decode cX3_spreadRequired 11 = .ok (.getfield 11, 3) := by decide +kernel
theorem dX3_spreadRequired_14 : decode cX3_spreadRequired 14 = .ok (.iload_n 3, 1) := by decide +kernel
theorem dX3_spreadRequired_15 : decode cX3_spreadRequired 15 = .ok (.aaload, 1) := by decide +kernel
theorem dX3_spreadRequired_16 : decode cX3_spreadRequired 16 = .ok (.astore 4, 2) := by decide +kernel
theorem dX3_spreadRequired_18 : decode cX3_spreadRequired 18 = .ok (.aload 4, 2) := by decide +kernel
theorem dX3_spreadRequired_20 : decode cX3_spreadRequired 20 = .ok (.aload_n 1, 1) := by decide +kernel
theorem dX3_spreadRequired_21 : decode cX3_spreadRequired 21 = .ok (.if_acmp .eq 18, 3) := by decide +kernel
theorem dX3_spreadRequired_24 : decode cX3_spreadRequired 24 = .ok (.aload 4, 2) := by decide +kernel
theorem dX3_spreadRequired_26 : decode cX3_spreadRequired 26 = .ok (.getfield 90, 3) := by decide +kernel
theorem dX3_spreadRequired_29 : decode cX3_spreadRequired 29 = .ok (.aload_n 1, 1) := by decide +kernel
theorem dX3_spreadRequired_30 : decode cX3_spreadRequired 30 = .ok (.getfield 65, 3) := by decide +kernel
theorem dX3_spreadRequired_33 : decode cX3_spreadRequired 33 = .ok (.invokestatic 86, 3) := by decide +kernel
theorem dX3_spreadRequired_36 : decode cX3_spreadRequired 36 = .ok (.ifCond .eq 14, 3) := by decide +kernel
theorem dX3_spreadRequired_39 : decode cX3_spreadRequired 39 = .ok (.aload 4, 2) := by decide +kernel
theorem dX3_spreadRequired_41 : decode cX3_spreadRequired 41 = .ok (.dup, 1) := by decide +kernel
theorem dX3_spreadRequired_42 : decode cX3_spreadRequired 42 = .ok (.getfield 90, 3) := by decide +kernel
theorem dX3_spreadRequired_45 : decode cX3_spreadRequired 45 = .ok (.iload_n 2, 1) := by decide +kernel
theorem dX3_spreadRequired_46 : decode cX3_spreadRequired 46 = .ok (.ior, 1) := by decide +kernel
theorem dX3_spreadRequired_47 : decode cX3_spreadRequired 47 = .ok (.putfield 90, 3) := by decide +kernel
theorem dX3_spreadRequired_50 : decode cX3_spreadRequired 50 = .ok (.iinc 3 1, 3) := by decide +kernel
theorem dX3_spreadRequired_53 : decode cX3_spreadRequired 53 = .ok (.goto (-51), 3) := by decide +kernel
theorem dX3_spreadRequired_56 : decode cX3_spreadRequired 56 = .ok (.return_, 1) := by decide +kernel
theorem dX3_levelOf_0 : decode cX3_levelOf 0 = .ok (.iconst 0, 1) := by decide +kernel
theorem dX3_levelOf_1 : decode cX3_levelOf 1 = .ok (.istore_n 2, 1) := by decide +kernel
theorem dX3_levelOf_2 : decode cX3_levelOf 2 = .ok (.aload_n 1, 1) := by decide +kernel
theorem dX3_levelOf_3 : decode cX3_levelOf 3 = .ok (.getfield 83, 3) := by decide +kernel
theorem dX3_levelOf_6 : decode cX3_levelOf 6 = .ok (.istore_n 3, 1) := by decide +kernel
theorem dX3_levelOf_7 : decode cX3_levelOf 7 = .ok (.iload_n 3, 1) := by decide +kernel
theorem dX3_levelOf_8 : decode cX3_levelOf 8 = .ok (.ifCond .eq 23, 3) := by decide +kernel
theorem dX3_levelOf_11 : decode cX3_levelOf 11 = .ok (.iload_n 2, 1) := by decide +kernel
theorem dX3_levelOf_12 : decode cX3_levelOf 12 = .ok (.aload_n 0, 1) := by decide +kernel
theorem dX3_levelOf_13 : decode cX3_levelOf 13 = .ok (.getfield 25, 3) := by decide +kernel
theorem dX3_levelOf_16 : decode cX3_levelOf 16 = .ok (.if_icmp .ge 15, 3) := by decide +kernel
theorem dX3_levelOf_19 : decode cX3_levelOf 19 = .ok (.aload_n 0, 1) := by decide +kernel
theorem dX3_levelOf_20 : decode cX3_levelOf 20 = .ok (.iload_n 3, 1) := by decide +kernel
theorem dX3_levelOf_21 : decode cX3_levelOf 21 = .ok (.invokevirtual 264, 3) := by decide +kernel
theorem dX3_levelOf_24 : decode cX3_levelOf 24 = .ok (.istore_n 3, 1) := by decide +kernel
theorem dX3_levelOf_25 : decode cX3_levelOf 25 = .ok (.iinc 2 1, 3) := by decide +kernel
theorem dX3_levelOf_28 : decode cX3_levelOf 28 = .ok (.goto (-21), 3) := by decide +kernel
theorem dX3_levelOf_31 : decode cX3_levelOf 31 = .ok (.iload_n 2, 1) := by decide +kernel
theorem dX3_levelOf_32 : decode cX3_levelOf 32 = .ok (.ireturn, 1) := by decide +kernel
theorem dX3_directOf_0 : decode cX3_directOf 0 = .ok (.iconst 0, 1) := by decide +kernel
theorem dX3_directOf_1 : decode cX3_directOf 1 = .ok (.istore_n 2, 1) := by decide +kernel
theorem dX3_directOf_2 : decode cX3_directOf 2 = .ok (.iconst 0, 1) := by decide +kernel
theorem dX3_directOf_3 : decode cX3_directOf 3 = .ok (.istore_n 3, 1) := by decide +kernel
theorem dX3_directOf_4 : decode cX3_directOf 4 = .ok (.iload_n 3, 1) := by decide +kernel
theorem dX3_directOf_5 : decode cX3_directOf 5 = .ok (.aload_n 0, 1) := by decide +kernel
theorem dX3_directOf_6 : decode cX3_directOf 6 = .ok (.getfield 25, 3) := by decide +kernel
theorem dX3_directOf_9 : decode cX3_directOf 9 = .ok (.if_icmp .ge 29, 3) := by decide +kernel
theorem dX3_directOf_12 : decode cX3_directOf 12 = .ok (.iload_n 1, 1) := by decide +kernel
theorem dX3_directOf_13 : decode cX3_directOf 13 = .ok (.iload_n 3, 1) := by decide +kernel
theorem dX3_directOf_14 : decode cX3_directOf 14 = .ok (.invokestatic 86, 3) := by decide +kernel
theorem dX3_directOf_17 : decode cX3_directOf 17 = .ok (.ifCond .eq 15, 3) := by decide +kernel
theorem dX3_directOf_20 : decode cX3_directOf 20 = .ok (.iload_n 2, 1) := by decide +kernel
theorem dX3_directOf_21 : decode cX3_directOf 21 = .ok (.aload_n 0, 1) := by decide +kernel
theorem dX3_directOf_22 : decode cX3_directOf 22 = .ok (.getfield 11, 3) := by decide +kernel
theorem dX3_directOf_25 : decode cX3_directOf 25 = .ok (.iload_n 3, 1) := by decide +kernel
theorem dX3_directOf_26 : decode cX3_directOf 26 = .ok (.aaload, 1) := by decide +kernel
theorem dX3_directOf_27 : decode cX3_directOf 27 = .ok (.getfield 83, 3) := by decide +kernel
theorem dX3_directOf_30 : decode cX3_directOf 30 = .ok (.ior, 1) := by decide +kernel
theorem dX3_directOf_31 : decode cX3_directOf 31 = .ok (.istore_n 2, 1) := by decide +kernel
theorem dX3_directOf_32 : decode cX3_directOf 32 = .ok (.iinc 3 1, 3) := by decide +kernel
theorem dX3_directOf_35 : decode cX3_directOf 35 = .ok (.goto (-31), 3) := by decide +kernel
theorem dX3_directOf_38 : decode cX3_directOf 38 = .ok (.iload_n 2, 1) := by decide +kernel
theorem dX3_directOf_39 : decode cX3_directOf 39 = .ok (.ireturn, 1) := by decide +kernel
theorem dX3_enrolledIn_0 : decode cX3_enrolledIn 0 = .ok (.iconst 0, 1) := by decide +kernel
theorem dX3_enrolledIn_1 : decode cX3_enrolledIn 1 = .ok (.istore_n 2, 1) := by decide +kernel
theorem dX3_enrolledIn_2 : decode cX3_enrolledIn 2 = .ok (.iconst 0, 1) := by decide +kernel
theorem dX3_enrolledIn_3 : decode cX3_enrolledIn 3 = .ok (.istore_n 3, 1) := by decide +kernel
theorem dX3_enrolledIn_4 : decode cX3_enrolledIn 4 = .ok (.iload_n 3, 1) := by decide +kernel
theorem dX3_enrolledIn_5 : decode cX3_enrolledIn 5 = .ok (.aload_n 0, 1) := by decide +kernel
theorem dX3_enrolledIn_6 : decode cX3_enrolledIn 6 = .ok (.getfield 29, 3) := by decide +kernel
theorem dX3_enrolledIn_9 : decode cX3_enrolledIn 9 = .ok (.if_icmp .ge 31, 3) := by decide +kernel
theorem dX3_enrolledIn_12 : decode cX3_enrolledIn 12 = .ok (.aload_n 0, 1) := by decide +kernel
theorem dX3_enrolledIn_13 : decode cX3_enrolledIn 13 = .ok (.getfield 20, 3) := by decide +kernel
theorem dX3_enrolledIn_16 : decode cX3_enrolledIn 16 = .ok (.iload_n 3, 1) := by decide +kernel
theorem dX3_enrolledIn_17 : decode cX3_enrolledIn 17 = .ok (.aaload, 1) := by decide +kernel
theorem dX3_enrolledIn_18 : decode cX3_enrolledIn 18 = .ok (.getfield 135, 3) := by decide +kernel
theorem dX3_enrolledIn_21 : decode cX3_enrolledIn 21 = .ok (.aload_n 1, 1) := by decide +kernel
theorem dX3_enrolledIn_22 : decode cX3_enrolledIn 22 = .ok (.getfield 65, 3) := by decide +kernel
theorem dX3_enrolledIn_25 : decode cX3_enrolledIn 25 = .ok (.invokestatic 86, 3) := by decide +kernel
theorem dX3_enrolledIn_28 : decode cX3_enrolledIn 28 = .ok (.ifCond .eq 6, 3) := by decide +kernel
theorem dX3_enrolledIn_31 : decode cX3_enrolledIn 31 = .ok (.iinc 2 1, 3) := by decide +kernel
theorem dX3_enrolledIn_34 : decode cX3_enrolledIn 34 = .ok (.iinc 3 1, 3) := by decide +kernel
theorem dX3_enrolledIn_37 : decode cX3_enrolledIn 37 = .ok (.goto (-33), 3) := by decide +kernel
theorem dX3_enrolledIn_40 : decode cX3_enrolledIn 40 = .ok (.iload_n 2, 1) := by decide +kernel
theorem dX3_enrolledIn_41 : decode cX3_enrolledIn 41 = .ok (.ireturn, 1) := by decide +kernel
theorem dX3_takenSeats_0 : decode cX3_takenSeats 0 = .ok (.aload_n 0, 1) := by decide +kernel
theorem dX3_takenSeats_1 : decode cX3_takenSeats 1 = .ok (.aload_n 1, 1) := by decide +kernel
theorem dX3_takenSeats_2 : decode cX3_takenSeats 2 = .ok (.invokevirtual 111, 3) := by decide +kernel
theorem dX3_takenSeats_5 : decode cX3_takenSeats 5 = .ok (.aload_n 1, 1) := by decide +kernel
theorem dX3_takenSeats_6 : decode cX3_takenSeats 6 = .ok (.invokevirtual 267, 3) := by decide +kernel
theorem dX3_takenSeats_9 : decode cX3_takenSeats 9 = .ok (.iadd, 1) := by decide +kernel
theorem dX3_takenSeats_10 : decode cX3_takenSeats 10 = .ok (.ireturn, 1) := by decide +kernel
theorem dX3_freeIn_0 : decode cX3_freeIn 0 = .ok (.aload_n 1, 1) := by decide +kernel
theorem dX3_freeIn_1 : decode cX3_freeIn 1 = .ok (.getfield 56, 3) := by decide +kernel
theorem dX3_freeIn_4 : decode cX3_freeIn 4 = .ok (.aload_n 0, 1) := by decide +kernel
theorem dX3_freeIn_5 : decode cX3_freeIn 5 = .ok (.aload_n 1, 1) := by decide +kernel
theorem dX3_freeIn_6 : decode cX3_freeIn 6 = .ok (.invokevirtual 74, 3) := by decide +kernel
theorem dX3_freeIn_9 : decode cX3_freeIn 9 = .ok (.isub, 1) := by decide +kernel
theorem dX3_freeIn_10 : decode cX3_freeIn 10 = .ok (.ireturn, 1) := by decide +kernel
theorem dX3_creditsOf_0 : decode cX3_creditsOf 0 = .ok (.iconst 0, 1) := by decide +kernel
theorem dX3_creditsOf_1 : decode cX3_creditsOf 1 = .ok (.istore_n 2, 1) := by decide +kernel
theorem dX3_creditsOf_2 : decode cX3_creditsOf 2 = .ok (.iconst 0, 1) := by decide +kernel
theorem dX3_creditsOf_3 : decode cX3_creditsOf 3 = .ok (.istore_n 3, 1) := by decide +kernel
theorem dX3_creditsOf_4 : decode cX3_creditsOf 4 = .ok (.iload_n 3, 1) := by decide +kernel
theorem dX3_creditsOf_5 : decode cX3_creditsOf 5 = .ok (.aload_n 0, 1) := by decide +kernel
theorem dX3_creditsOf_6 : decode cX3_creditsOf 6 = .ok (.getfield 25, 3) := by decide +kernel
theorem dX3_creditsOf_9 : decode cX3_creditsOf 9 = .ok (.if_icmp .ge 29, 3) := by decide +kernel
theorem dX3_creditsOf_12 : decode cX3_creditsOf 12 = .ok (.iload_n 1, 1) := by decide +kernel
theorem dX3_creditsOf_13 : decode cX3_creditsOf 13 = .ok (.iload_n 3, 1) := by decide +kernel
theorem dX3_creditsOf_14 : decode cX3_creditsOf 14 = .ok (.invokestatic 86, 3) := by decide +kernel
theorem dX3_creditsOf_17 : decode cX3_creditsOf 17 = .ok (.ifCond .eq 15, 3) := by decide +kernel
theorem dX3_creditsOf_20 : decode cX3_creditsOf 20 = .ok (.iload_n 2, 1) := by decide +kernel
theorem dX3_creditsOf_21 : decode cX3_creditsOf 21 = .ok (.aload_n 0, 1) := by decide +kernel
theorem dX3_creditsOf_22 : decode cX3_creditsOf 22 = .ok (.getfield 11, 3) := by decide +kernel
theorem dX3_creditsOf_25 : decode cX3_creditsOf 25 = .ok (.iload_n 3, 1) := by decide +kernel
theorem dX3_creditsOf_26 : decode cX3_creditsOf 26 = .ok (.aaload, 1) := by decide +kernel
theorem dX3_creditsOf_27 : decode cX3_creditsOf 27 = .ok (.getfield 59, 3) := by decide +kernel
theorem dX3_creditsOf_30 : decode cX3_creditsOf 30 = .ok (.iadd, 1) := by decide +kernel
theorem dX3_creditsOf_31 : decode cX3_creditsOf 31 = .ok (.istore_n 2, 1) := by decide +kernel
theorem dX3_creditsOf_32 : decode cX3_creditsOf 32 = .ok (.iinc 3 1, 3) := by decide +kernel
theorem dX3_creditsOf_35 : decode cX3_creditsOf 35 = .ok (.goto (-31), 3) := by decide +kernel
theorem dX3_creditsOf_38 : decode cX3_creditsOf 38 = .ok (.iload_n 2, 1) := by decide +kernel
theorem dX3_creditsOf_39 : decode cX3_creditsOf 39 = .ok (.ireturn, 1) := by decide +kernel
theorem dX3_hoursOf_0 : decode cX3_hoursOf 0 = .ok (.iconst 0, 1) := by decide +kernel
theorem dX3_hoursOf_1 : decode cX3_hoursOf 1 = .ok (.istore_n 2, 1) := by decide +kernel
theorem dX3_hoursOf_2 : decode cX3_hoursOf 2 = .ok (.iconst 0, 1) := by decide +kernel
theorem dX3_hoursOf_3 : decode cX3_hoursOf 3 = .ok (.istore_n 3, 1) := by decide +kernel
theorem dX3_hoursOf_4 : decode cX3_hoursOf 4 = .ok (.iload_n 3, 1) := by decide +kernel
theorem dX3_hoursOf_5 : decode cX3_hoursOf 5 = .ok (.aload_n 0, 1) := by decide +kernel
theorem dX3_hoursOf_6 : decode cX3_hoursOf 6 = .ok (.getfield 25, 3) := by decide +kernel
theorem dX3_hoursOf_9 : decode cX3_hoursOf 9 = .ok (.if_icmp .ge 29, 3) := by decide +kernel
theorem dX3_hoursOf_12 : decode cX3_hoursOf 12 = .ok (.iload_n 1, 1) := by decide +kernel
theorem dX3_hoursOf_13 : decode cX3_hoursOf 13 = .ok (.iload_n 3, 1) := by decide +kernel
theorem dX3_hoursOf_14 : decode cX3_hoursOf 14 = .ok (.invokestatic 86, 3) := by decide +kernel
theorem dX3_hoursOf_17 : decode cX3_hoursOf 17 = .ok (.ifCond .eq 15, 3) := by decide +kernel
theorem dX3_hoursOf_20 : decode cX3_hoursOf 20 = .ok (.iload_n 2, 1) := by decide +kernel
theorem dX3_hoursOf_21 : decode cX3_hoursOf 21 = .ok (.aload_n 0, 1) := by decide +kernel
theorem dX3_hoursOf_22 : decode cX3_hoursOf 22 = .ok (.getfield 11, 3) := by decide +kernel
theorem dX3_hoursOf_25 : decode cX3_hoursOf 25 = .ok (.iload_n 3, 1) := by decide +kernel
theorem dX3_hoursOf_26 : decode cX3_hoursOf 26 = .ok (.aaload, 1) := by decide +kernel
theorem dX3_hoursOf_27 : decode cX3_hoursOf 27 = .ok (.getfield 62, 3) := by decide +kernel
theorem dX3_hoursOf_30 : decode cX3_hoursOf 30 = .ok (.ior, 1) := by decide +kernel
theorem dX3_hoursOf_31 : decode cX3_hoursOf 31 = .ok (.istore_n 2, 1) := by decide +kernel
theorem dX3_hoursOf_32 : decode cX3_hoursOf 32 = .ok (.iinc 3 1, 3) := by decide +kernel
theorem dX3_hoursOf_35 : decode cX3_hoursOf 35 = .ok (.goto (-31), 3) := by decide +kernel
theorem dX3_hoursOf_38 : decode cX3_hoursOf 38 = .ok (.iload_n 2, 1) := by decide +kernel
theorem dX3_hoursOf_39 : decode cX3_hoursOf 39 = .ok (.ireturn, 1) := by decide +kernel
theorem dX3_obstacleFor_0 : decode cX3_obstacleFor 0 = .ok (.aload_n 1, 1) := by decide +kernel
theorem dX3_obstacleFor_1 : decode cX3_obstacleFor 1 = .ok (.getfield 132, 3) := by decide +kernel
theorem dX3_obstacleFor_4 : decode cX3_obstacleFor 4 = .ok (.aload_n 2, 1) := by decide +kernel
theorem dX3_obstacleFor_5 : decode cX3_obstacleFor 5 = .ok (.getfield 65, 3) := by decide +kernel
theorem dX3_obstacleFor_8 : decode cX3_obstacleFor 8 = .ok (.invokestatic 86, 3) := by decide +kernel
theorem dX3_obstacleFor_11 : decode cX3_obstacleFor 11 = .ok (.ifCond .eq 5, 3) := by decide +kernel
theorem dX3_obstacleFor_14 : decode cX3_obstacleFor 14 = .ok (.iconst 1, 1) := by decide +kernel
theorem dX3_obstacleFor_15 : decode cX3_obstacleFor 15 = .ok (.ireturn, 1) := by decide +kernel
theorem dX3_obstacleFor_16 : decode cX3_obstacleFor 16 = .ok (.iload_n 3, 1) := by decide +kernel
theorem dX3_obstacleFor_17 : decode cX3_obstacleFor 17 = .ok (.aload_n 2, 1) := by decide +kernel
theorem dX3_obstacleFor_18 : decode cX3_obstacleFor 18 = .ok (.getfield 65, 3) := by decide +kernel
theorem dX3_obstacleFor_21 : decode cX3_obstacleFor 21 = .ok (.invokestatic 86, 3) := by decide +kernel
theorem dX3_obstacleFor_24 : decode cX3_obstacleFor 24 = .ok (.ifCond .eq 5, 3) := by decide +kernel
theorem dX3_obstacleFor_27 : decode cX3_obstacleFor 27 = .ok (.iconst 2, 1) := by decide +kernel
theorem dX3_obstacleFor_28 : decode cX3_obstacleFor 28 = .ok (.ireturn, 1) := by decide +kernel
theorem dX3_obstacleFor_29 : decode cX3_obstacleFor 29 = .ok (.aload_n 2, 1) := by decide +kernel
theorem dX3_obstacleFor_30 : decode cX3_obstacleFor 30 = .ok (.getfield 90, 3) := by decide +kernel
theorem dX3_obstacleFor_33 : decode cX3_obstacleFor 33 = .ok (.aload_n 1, 1) := by decide +kernel
theorem dX3_obstacleFor_34 : decode cX3_obstacleFor 34 = .ok (.getfield 132, 3) := by decide +kernel
theorem dX3_obstacleFor_37 : decode cX3_obstacleFor 37 = .ok (.iconst (-1), 1) := by decide +kernel
theorem dX3_obstacleFor_38 : decode cX3_obstacleFor 38 = .ok (.ixor, 1) := by decide +kernel
theorem dX3_obstacleFor_39 : decode cX3_obstacleFor 39 = .ok (.iand, 1) := by decide +kernel
theorem dX3_obstacleFor_40 : decode cX3_obstacleFor 40 = .ok (.ifCond .eq 5, 3) := by decide +kernel
theorem dX3_obstacleFor_43 : decode cX3_obstacleFor 43 = .ok (.iconst 3, 1) := by decide +kernel
theorem dX3_obstacleFor_44 : decode cX3_obstacleFor 44 = .ok (.ireturn, 1) := by decide +kernel
theorem dX3_obstacleFor_45 : decode cX3_obstacleFor 45 = .ok (.aload_n 0, 1) := by decide +kernel
theorem dX3_obstacleFor_46 : decode cX3_obstacleFor 46 = .ok (.iload_n 3, 1) := by decide +kernel
theorem dX3_obstacleFor_47 : decode cX3_obstacleFor 47 = .ok (.invokevirtual 152, 3) := by decide +kernel
theorem dX3_obstacleFor_50 : decode cX3_obstacleFor 50 = .ok (.aload_n 2, 1) := by decide +kernel
theorem dX3_obstacleFor_51 : decode cX3_obstacleFor 51 = .ok (.getfield 59, 3) := by decide +kernel
theorem dX3_obstacleFor_54 : decode cX3_obstacleFor 54 = .ok (.iadd, 1) := by decide +kernel
theorem dX3_obstacleFor_55 : decode cX3_obstacleFor 55 = .ok (.aload_n 1, 1) := by decide +kernel
theorem dX3_obstacleFor_56 : decode cX3_obstacleFor 56 = .ok (.getfield 124, 3) := by decide +kernel
theorem dX3_obstacleFor_59 : decode cX3_obstacleFor 59 = .ok (.if_icmp .le 5, 3) := by decide +kernel
theorem dX3_obstacleFor_62 : decode cX3_obstacleFor 62 = .ok (.iconst 4, 1) := by decide +kernel
theorem dX3_obstacleFor_63 : decode cX3_obstacleFor 63 = .ok (.ireturn, 1) := by decide +kernel
theorem dX3_obstacleFor_64 : decode cX3_obstacleFor 64 = .ok (.aload_n 0, 1) := by decide +kernel
theorem dX3_obstacleFor_65 : decode cX3_obstacleFor 65 = .ok (.iload_n 3, 1) := by decide +kernel
theorem dX3_obstacleFor_66 : decode cX3_obstacleFor 66 = .ok (.invokevirtual 270, 3) := by decide +kernel
theorem dX3_obstacleFor_69 : decode cX3_obstacleFor 69 = .ok (.aload_n 2, 1) := by decide +kernel
theorem dX3_obstacleFor_70 : decode cX3_obstacleFor 70 = .ok (.getfield 62, 3) := by decide +kernel
theorem dX3_obstacleFor_73 : decode cX3_obstacleFor 73 = .ok (.iand, 1) := by decide +kernel
theorem dX3_obstacleFor_74 : decode cX3_obstacleFor 74 = .ok (.ifCond .eq 5, 3) := by decide +kernel
theorem dX3_obstacleFor_77 : decode cX3_obstacleFor 77 = .ok (.iconst 5, 1) := by decide +kernel
theorem dX3_obstacleFor_78 : decode cX3_obstacleFor 78 = .ok (.ireturn, 1) := by decide +kernel
theorem dX3_obstacleFor_79 : decode cX3_obstacleFor 79 = .ok (.iconst 0, 1) := by decide +kernel
theorem dX3_obstacleFor_80 : decode cX3_obstacleFor 80 = .ok (.ireturn, 1) := by decide +kernel
theorem dX3_enrol_0 : decode cX3_enrol 0 = .ok (.aload_n 1, 1) := by decide +kernel
theorem dX3_enrol_1 : decode cX3_enrol 1 = .ok (.dup, 1) := by decide +kernel
theorem dX3_enrol_2 : decode cX3_enrol 2 = .ok (.getfield 135, 3) := by decide +kernel
theorem dX3_enrol_5 : decode cX3_enrol 5 = .ok (.aload_n 2, 1) := by decide +kernel
theorem dX3_enrol_6 : decode cX3_enrol 6 = .ok (.getfield 65, 3) := by decide +kernel
theorem dX3_enrol_9 : decode cX3_enrol 9 = .ok (.invokestatic 95, 3) := by decide +kernel
theorem dX3_enrol_12 : decode cX3_enrol 12 = .ok (.ior, 1) := by decide +kernel
theorem dX3_enrol_13 : decode cX3_enrol 13 = .ok (.putfield 135, 3) := by decide +kernel
theorem dX3_enrol_16 : decode cX3_enrol 16 = .ok (.aload_n 1, 1) := by decide +kernel
theorem dX3_enrol_17 : decode cX3_enrol 17 = .ok (.getfield 140, 3) := by decide +kernel
theorem dX3_enrol_20 : decode cX3_enrol 20 = .ok (.aload_n 2, 1) := by decide +kernel
theorem dX3_enrol_21 : decode cX3_enrol 21 = .ok (.getfield 65, 3) := by decide +kernel
theorem dX3_enrol_24 : decode cX3_enrol 24 = .ok (.invokevirtual 144, 3) := by decide +kernel
theorem dX3_enrol_27 : decode cX3_enrol 27 = .ok (.aload_n 2, 1) := by decide +kernel
theorem dX3_enrol_28 : decode cX3_enrol 28 = .ok (.aload_n 1, 1) := by decide +kernel
theorem dX3_enrol_29 : decode cX3_enrol 29 = .ok (.getfield 127, 3) := by decide +kernel
theorem dX3_enrol_32 : decode cX3_enrol 32 = .ok (.invokevirtual 149, 3) := by decide +kernel
theorem dX3_enrol_35 : decode cX3_enrol 35 = .ok (.return_, 1) := by decide +kernel
theorem dX3_endEnrolment_0 : decode cX3_endEnrolment 0 = .ok (.aload_n 1, 1) := by decide +kernel
theorem dX3_endEnrolment_1 : decode cX3_endEnrolment 1 = .ok (.dup, 1) := by decide +kernel
theorem dX3_endEnrolment_2 : decode cX3_endEnrolment 2 = .ok (.getfield 135, 3) := by decide +kernel
theorem dX3_endEnrolment_5 : decode cX3_endEnrolment 5 = .ok (.aload_n 2, 1) := by decide +kernel
theorem dX3_endEnrolment_6 : decode cX3_endEnrolment 6 = .ok (.getfield 65, 3) := by decide +kernel
theorem dX3_endEnrolment_9 : decode cX3_endEnrolment 9 = .ok (.invokestatic 95, 3) := by decide +kernel
theorem dX3_endEnrolment_12 : decode cX3_endEnrolment 12 = .ok (.iconst (-1), 1) := by decide +kernel
theorem dX3_endEnrolment_13 : decode cX3_endEnrolment 13 = .ok (.ixor, 1) := by decide +kernel
theorem dX3_endEnrolment_14 : decode cX3_endEnrolment 14 = .ok (.iand, 1) := by decide +kernel
theorem dX3_endEnrolment_15 : decode cX3_endEnrolment 15 = .ok (.putfield 135, 3) := by decide +kernel
theorem dX3_endEnrolment_18 : decode cX3_endEnrolment 18 = .ok (.aload_n 1, 1) := by decide +kernel
theorem dX3_endEnrolment_19 : decode cX3_endEnrolment 19 = .ok (.getfield 231, 3) := by decide +kernel
theorem dX3_endEnrolment_22 : decode cX3_endEnrolment 22 = .ok (.aload_n 2, 1) := by decide +kernel
theorem dX3_endEnrolment_23 : decode cX3_endEnrolment 23 = .ok (.getfield 65, 3) := by decide +kernel
theorem dX3_endEnrolment_26 : decode cX3_endEnrolment 26 = .ok (.if_icmp .ne 8, 3) := by decide +kernel
theorem dX3_endEnrolment_29 : decode cX3_endEnrolment 29 = .ok (.aload_n 1, 1) := by decide +kernel
theorem dX3_endEnrolment_30 : decode cX3_endEnrolment 30 = .ok (.iconst (-1), 1) := by decide +kernel
theorem dX3_endEnrolment_31 : decode cX3_endEnrolment 31 = .ok (.putfield 231, 3) := by decide +kernel
theorem dX3_endEnrolment_34 : decode cX3_endEnrolment 34 = .ok (.return_, 1) := by decide +kernel
theorem dX3_makeOffers_0 : decode cX3_makeOffers 0 = .ok (.iconst 0, 1) := by decide +kernel
theorem dX3_makeOffers_1 : decode cX3_makeOffers 1 = .ok (.istore_n 1, 1) := by decide +kernel
theorem dX3_makeOffers_2 : decode cX3_makeOffers 2 = .ok (.iload_n 1, 1) := by decide +kernel
theorem dX3_makeOffers_3 : decode cX3_makeOffers 3 = .ok (.aload_n 0, 1) := by decide +kernel
theorem dX3_makeOffers_4 : decode cX3_makeOffers 4 = .ok (.getfield 25, 3) := by decide +kernel
theorem dX3_makeOffers_7 : decode cX3_makeOffers 7 = .ok (.if_icmp .ge 19, 3) := by decide +kernel
theorem dX3_makeOffers_10 : decode cX3_makeOffers 10 = .ok (.aload_n 0, 1) := by decide +kernel
theorem dX3_makeOffers_11 : decode cX3_makeOffers 11 = .ok (.aload_n 0, 1) := by decide +kernel
theorem dX3_makeOffers_12 : decode cX3_makeOffers 12 = .ok (.getfield 11, 3) := by decide +kernel
theorem dX3_makeOffers_15 : decode cX3_makeOffers 15 = .ok (.iload_n 1, 1) := by decide +kernel
theorem dX3_makeOffers_16 : decode cX3_makeOffers 16 = .ok (.aaload, 1) := by decide +kernel
theorem dX3_makeOffers_17 : decode cX3_makeOffers 17 = .ok (.invokevirtual 273, 3) := by decide +kernel
theorem dX3_makeOffers_20 : decode cX3_makeOffers 20 = .ok (.iinc 1 1, 3) := by decide +kernel
theorem dX3_makeOffers_23 : decode cX3_makeOffers 23 = .ok (.goto (-21), 3) := by decide +kernel
theorem dX3_makeOffers_26 : decode cX3_makeOffers 26 = .ok (.return_, 1) := by decide +kernel
theorem dX3_makeOffersFor_0 : decode cX3_makeOffersFor 0 = .ok (.aload_n 0, 1) := by decide +kernel
theorem dX3_makeOffersFor_1 : decode cX3_makeOffersFor 1 = .ok (.aload_n 1, 1) := by decide +kernel
theorem dX3_makeOffersFor_2 : decode cX3_makeOffersFor 2 = .ok (.invokevirtual 114, 3) := by decide +kernel
theorem dX3_makeOffersFor_5 : decode cX3_makeOffersFor 5 = .ok (.istore_n 2, 1) := by decide +kernel
theorem dX3_makeOffersFor_6 : decode cX3_makeOffersFor 6 = .ok (.iconst 0, 1) := by decide +kernel
theorem dX3_makeOffersFor_7 : decode cX3_makeOffersFor 7 = .ok (.istore_n 3, 1) := by decide +kernel
theorem dX3_makeOffersFor_8 : decode cX3_makeOffersFor 8 = .ok (.iload_n 3, 1) := by decide +kernel
theorem dX3_makeOffersFor_9 : decode cX3_makeOffersFor 9 = .ok (.aload_n 1, 1) := by decide +kernel
theorem dX3_makeOffersFor_10 : decode cX3_makeOffersFor 10 = .ok (.getfield 179, 3) := by decide +kernel
theorem dX3_makeOffersFor_13 : decode cX3_makeOffersFor 13 = .ok (.invokevirtual 164, 3) := by decide +kernel
theorem dX3_makeOffersFor_16 : decode cX3_makeOffersFor 16 = .ok (.if_icmp .ge 71, 3) := by decide +kernel
theorem dX3_makeOffersFor_19 : decode cX3_makeOffersFor 19 = .ok (.iload_n 2, 1) := by decide +kernel
theorem dX3_makeOffersFor_20 : decode cX3_makeOffersFor 20 = .ok (.ifCond .le 67, 3) := by decide +kernel
theorem dX3_makeOffersFor_23 : decode cX3_makeOffersFor 23 = .ok (.aload_n 0, 1) := by decide +kernel
theorem dX3_makeOffersFor_24 : decode cX3_makeOffersFor 24 = .ok (.aload_n 1, 1) := by decide +kernel
theorem dX3_makeOffersFor_25 : decode cX3_makeOffersFor 25 = .ok (.getfield 179, 3) := by decide +kernel
theorem dX3_makeOffersFor_28 : decode cX3_makeOffersFor 28 = .ok (.iload_n 3, 1) := by decide +kernel
theorem dX3_makeOffersFor_29 : decode cX3_makeOffersFor 29 = .ok (.invokevirtual 259, 3) := by decide +kernel
theorem dX3_makeOffersFor_32 : decode cX3_makeOffersFor 32 = .ok (.invokevirtual 128, 3) := by decide +kernel
theorem dX3_makeOffersFor_35 : decode cX3_makeOffersFor 35 = .ok (.astore 4, 2) := by decide +kernel
theorem dX3_makeOffersFor_37 : decode cX3_makeOffersFor 37 = .ok (.aload_n 1, 1) := by decide +kernel
theorem dX3_makeOffersFor_38 : decode cX3_makeOffersFor 38 = .ok (.aload 4, 2) := by decide +kernel
theorem dX3_makeOffersFor_40 : decode cX3_makeOffersFor 40 = .ok (.getfield 127, 3) := by decide +kernel
theorem dX3_makeOffersFor_43 : decode cX3_makeOffersFor 43 = .ok (.invokevirtual 199, 3) := by decide +kernel
theorem dX3_makeOffersFor_46 : decode cX3_makeOffersFor 46 = .ok (.ifCond .ne 35, 3) := by decide +kernel
theorem dX3_makeOffersFor_49 : decode cX3_makeOffersFor 49 = .ok (.aload_n 0, 1) := by decide +kernel
theorem dX3_makeOffersFor_50 : decode cX3_makeOffersFor 50 = .ok (.aload 4, 2) := by decide +kernel
theorem dX3_makeOffersFor_52 : decode cX3_makeOffersFor 52 = .ok (.aload_n 1, 1) := by decide +kernel
theorem dX3_makeOffersFor_53 : decode cX3_makeOffersFor 53 = .ok (.aload 4, 2) := by decide +kernel
theorem dX3_makeOffersFor_55 : decode cX3_makeOffersFor 55 = .ok (.getfield 135, 3) := by decide +kernel
theorem dX3_makeOffersFor_58 : decode cX3_makeOffersFor 58 = .ok (.invokevirtual 155, 3) := by decide +kernel
theorem dX3_makeOffersFor_61 : decode cX3_makeOffersFor 61 = .ok (.ifCond .ne 20, 3) := by decide +kernel
theorem dX3_makeOffersFor_64 : decode cX3_makeOffersFor 64 = .ok (.aload_n 1, 1) := by decide +kernel
theorem dX3_makeOffersFor_65 : decode cX3_makeOffersFor 65 = .ok (.getfield 277, 3) := by decide +kernel
theorem dX3_makeOffersFor_68 : decode cX3_makeOffersFor 68 = .ok (.aload 4, 2) := by decide +kernel
theorem dX3_makeOffersFor_70 : decode cX3_makeOffersFor 70 = .ok (.getfield 127, 3) := by decide +kernel
theorem dX3_makeOffersFor_73 : decode cX3_makeOffersFor 73 = .ok (.aload_n 0, 1) := by decide +kernel
theorem dX3_makeOffersFor_74 : decode cX3_makeOffersFor 74 = .ok (.getfield 32, 3) := by decide +kernel
theorem dX3_makeOffersFor_77 : decode cX3_makeOffersFor 77 = .ok (.iastore, 1) := by decide +kernel
theorem dX3_makeOffersFor_78 : decode cX3_makeOffersFor 78 = .ok (.iinc 2 (-1), 3) := by decide +kernel
theorem dX3_makeOffersFor_81 : decode cX3_makeOffersFor 81 = .ok (.iinc 3 1, 3) := by decide +kernel
theorem dX3_makeOffersFor_84 : decode cX3_makeOffersFor 84 = .ok (.goto (-76), 3) := by decide +kernel
theorem dX3_makeOffersFor_87 : decode cX3_makeOffersFor 87 = .ok (.return_, 1) := by decide +kernel
theorem dX3_daysLeft_0 : decode cX3_daysLeft 0 = .ok (.iconst 3, 1) := by decide +kernel
theorem dX3_daysLeft_1 : decode cX3_daysLeft 1 = .ok (.aload_n 0, 1) := by decide +kernel
theorem dX3_daysLeft_2 : decode cX3_daysLeft 2 = .ok (.getfield 32, 3) := by decide +kernel
theorem dX3_daysLeft_5 : decode cX3_daysLeft 5 = .ok (.aload_n 1, 1) := by decide +kernel
theorem dX3_daysLeft_6 : decode cX3_daysLeft 6 = .ok (.getfield 277, 3) := by decide +kernel
theorem dX3_daysLeft_9 : decode cX3_daysLeft 9 = .ok (.iload_n 2, 1) := by decide +kernel
theorem dX3_daysLeft_10 : decode cX3_daysLeft 10 = .ok (.iaload, 1) := by decide +kernel
theorem dX3_daysLeft_11 : decode cX3_daysLeft 11 = .ok (.isub, 1) := by decide +kernel
theorem dX3_daysLeft_12 : decode cX3_daysLeft 12 = .ok (.isub, 1) := by decide +kernel
theorem dX3_daysLeft_13 : decode cX3_daysLeft 13 = .ok (.ireturn, 1) := by decide +kernel
theorem dX3_endOldOffers_0 : decode cX3_endOldOffers 0 = .ok (.iconst 0, 1) := by decide +kernel
theorem dX3_endOldOffers_1 : decode cX3_endOldOffers 1 = .ok (.istore_n 1, 1) := by decide +kernel
theorem dX3_endOldOffers_2 : decode cX3_endOldOffers 2 = .ok (.iconst 0, 1) := by decide +kernel
theorem dX3_endOldOffers_3 : decode cX3_endOldOffers 3 = .ok (.istore_n 2, 1) := by decide +kernel
theorem dX3_endOldOffers_4 : decode cX3_endOldOffers 4 = .ok (.iload_n 2, 1) := by decide +kernel
theorem dX3_endOldOffers_5 : decode cX3_endOldOffers 5 = .ok (.aload_n 0, 1) := by decide +kernel
theorem dX3_endOldOffers_6 : decode cX3_endOldOffers 6 = .ok (.getfield 25, 3) := by decide +kernel
theorem dX3_endOldOffers_9 : decode cX3_endOldOffers 9 = .ok (.if_icmp .ge 62, 3) := by decide +kernel
theorem dX3_endOldOffers_12 : decode cX3_endOldOffers 12 = .ok (.aload_n 0, 1) := by decide +kernel
theorem dX3_endOldOffers_13 : decode cX3_endOldOffers 13 = .ok (.getfield 11, 3) := by decide +kernel
theorem dX3_endOldOffers_16 : decode cX3_endOldOffers 16 = .ok (.iload_n 2, 1) := by decide +kernel
theorem dX3_endOldOffers_17 : decode cX3_endOldOffers 17 = .ok (.aaload, 1) := by decide +kernel
theorem dX3_endOldOffers_18 : decode cX3_endOldOffers 18 = .ok (.astore_n 3, 1) := by decide +kernel
theorem dX3_endOldOffers_19 : decode cX3_endOldOffers 19 = .ok (.iconst 0, 1) := by decide +kernel
theorem dX3_endOldOffers_20 : decode cX3_endOldOffers 20 = .ok (.istore 4, 2) := by decide +kernel
theorem dX3_endOldOffers_22 : decode cX3_endOldOffers 22 = .ok (.iload 4, 2) := by decide +kernel
theorem dX3_endOldOffers_24 : decode cX3_endOldOffers 24 = .ok (.aload_n 0, 1) := by decide +kernel
theorem dX3_endOldOffers_25 : decode cX3_endOldOffers 25 = .ok (.getfield 29, 3) := by decide +kernel
theorem dX3_endOldOffers_28 : decode cX3_endOldOffers 28 = .ok (.if_icmp .ge 37, 3) := by decide +kernel
theorem dX3_endOldOffers_31 : decode cX3_endOldOffers 31 = .ok (.aload_n 3, 1) := by decide +kernel
theorem dX3_endOldOffers_32 : decode cX3_endOldOffers 32 = .ok (.iload 4, 2) := by decide +kernel
theorem dX3_endOldOffers_34 : decode cX3_endOldOffers 34 = .ok (.invokevirtual 199, 3) := by decide +kernel
theorem dX3_endOldOffers_37 : decode cX3_endOldOffers 37 = .ok (.ifCond .eq 22, 3) := by decide +kernel
theorem dX3_endOldOffers_40 : decode cX3_endOldOffers 40 = .ok (.aload_n 0, 1) := by decide +kernel
theorem dX3_endOldOffers_41 : decode cX3_endOldOffers 41 = .ok (.aload_n 3, 1) := by decide +kernel
theorem dX3_endOldOffers_42 : decode cX3_endOldOffers 42 = .ok (.iload 4, 2) := by decide +kernel
theorem dX3_endOldOffers_44 : decode cX3_endOldOffers 44 = .ok (.invokevirtual 212, 3) := by decide +kernel
theorem dX3_endOldOffers_47 : decode cX3_endOldOffers 47 = .ok (.ifCond .gt 12, 3) := by decide +kernel
theorem dX3_endOldOffers_50 : decode cX3_endOldOffers 50 = .ok (.aload_n 3, 1) := by decide +kernel
theorem dX3_endOldOffers_51 : decode cX3_endOldOffers 51 = .ok (.iload 4, 2) := by decide +kernel
theorem dX3_endOldOffers_53 : decode cX3_endOldOffers 53 = .ok (.invokevirtual 149, 3) := by decide +kernel
theorem dX3_endOldOffers_56 : decode cX3_endOldOffers 56 = .ok (.iinc 1 1, 3) := by decide +kernel
theorem dX3_endOldOffers_59 : decode cX3_endOldOffers 59 = .ok (.iinc 4 1, 3) := by decide +kernel
theorem dX3_endOldOffers_62 : decode cX3_endOldOffers 62 = .ok (.goto (-40), 3) := by decide +kernel
theorem dX3_endOldOffers_65 : decode cX3_endOldOffers 65 = .ok (.iinc 2 1, 3) := by decide +kernel
theorem dX3_endOldOffers_68 : decode cX3_endOldOffers 68 = .ok (.goto (-64), 3) := by decide +kernel
theorem dX3_endOldOffers_71 : decode cX3_endOldOffers 71 = .ok (.iload_n 1, 1) := by decide +kernel
theorem dX3_endOldOffers_72 : decode cX3_endOldOffers 72 = .ok (.ireturn, 1) := by decide +kernel
theorem dX3_drawNumbers_0 : decode cX3_drawNumbers 0 = .ok (.iload_n 1, 1) := by decide +kernel
theorem dX3_drawNumbers_1 : decode cX3_drawNumbers 1 = .ok (.i2l, 1) := by decide +kernel
theorem dX3_drawNumbers_2 : decode cX3_drawNumbers 2 = .ok (.lstore_n 2, 1) := by decide +kernel
theorem dX3_drawNumbers_3 : decode cX3_drawNumbers 3 = .ok (.iconst 0, 1) := by decide +kernel
theorem dX3_drawNumbers_4 : decode cX3_drawNumbers 4 = .ok (.istore 4, 2) := by decide +kernel
theorem dX3_drawNumbers_6 : decode cX3_drawNumbers 6 = .ok (.iload 4, 2) := by decide +kernel
theorem dX3_drawNumbers_8 : decode cX3_drawNumbers 8 = .ok (.aload_n 0, 1) := by decide +kernel
theorem dX3_drawNumbers_9 : decode cX3_drawNumbers 9 = .ok (.getfield 29, 3) := by decide +kernel
theorem dX3_drawNumbers_12 : decode cX3_drawNumbers 12 = .ok (.if_icmp .ge 39, 3) := by decide +kernel
theorem dX3_drawNumbers_15 : decode cX3_drawNumbers 15 = .ok (.ldc2_w 280, 3) := by decide +kernel
theorem dX3_drawNumbers_18 : decode cX3_drawNumbers 18 = .ok (.lload_n 2, 1) := by decide +kernel
theorem dX3_drawNumbers_19 : decode cX3_drawNumbers 19 = .ok (.lmul, 1) := by decide +kernel
theorem dX3_drawNumbers_20 : decode cX3_drawNumbers 20 = .ok (.ldc2_w 282, 3) := by decide +kernel
theorem dX3_drawNumbers_23 : decode cX3_drawNumbers 23 = .ok (.ladd, 1) := by decide +kernel
theorem dX3_drawNumbers_24 : decode cX3_drawNumbers 24 = .ok (.ldc2_w 284, 3) := by decide +kernel
theorem dX3_drawNumbers_27 : decode cX3_drawNumbers 27 = .ok (.lrem, 1) := by decide +kernel
theorem dX3_drawNumbers_28 : decode cX3_drawNumbers 28 = .ok (.lstore_n 2, 1) := by decide +kernel
theorem dX3_drawNumbers_29 : decode cX3_drawNumbers 29 = .ok (.aload_n 0, 1) := by decide +kernel
theorem dX3_drawNumbers_30 : decode cX3_drawNumbers 30 = .ok (.getfield 20, 3) := by decide +kernel
theorem dX3_drawNumbers_33 : decode cX3_drawNumbers 33 = .ok (.iload 4, 2) := by decide +kernel
theorem dX3_drawNumbers_35 : decode cX3_drawNumbers 35 = .ok (.aaload, 1) := by decide +kernel
theorem dX3_drawNumbers_36 : decode cX3_drawNumbers 36 = .ok (.lload_n 2, 1) := by decide +kernel
theorem dX3_drawNumbers_37 : decode cX3_drawNumbers 37 = .ok (.ldc2_w 286, 3) := by decide +kernel
theorem dX3_drawNumbers_40 : decode cX3_drawNumbers 40 = .ok (.ldiv, 1) := by decide +kernel
theorem dX3_drawNumbers_41 : decode cX3_drawNumbers 41 = .ok (.l2i, 1) := by decide +kernel
theorem dX3_drawNumbers_42 : decode cX3_drawNumbers 42 = .ok (.putfield 228, 3) := by decide +kernel
theorem dX3_drawNumbers_45 : decode cX3_drawNumbers 45 = .ok (.iinc 4 1, 3) := by decide +kernel
theorem dX3_drawNumbers_48 : decode cX3_drawNumbers 48 = .ok (.goto (-42), 3) := by decide +kernel
theorem dX3_drawNumbers_51 : decode cX3_drawNumbers 51 = .ok (.return_, 1) := by decide +kernel
theorem dX3_turnOf_0 : decode cX3_turnOf 0 = .ok (.aload_n 0, 1) := by decide +kernel
theorem dX3_turnOf_1 : decode cX3_turnOf 1 = .ok (.getfield 121, 3) := by decide +kernel
theorem dX3_turnOf_4 : decode cX3_turnOf 4 = .ok (.ldc_w 288, 3) := by decide +kernel
theorem dX3_turnOf_7 : decode cX3_turnOf 7 = .ok (.imul, 1) := by decide +kernel
theorem dX3_turnOf_8 : decode cX3_turnOf 8 = .ok (.aload_n 0, 1) := by decide +kernel
theorem dX3_turnOf_9 : decode cX3_turnOf 9 = .ok (.getfield 228, 3) := by decide +kernel
theorem dX3_turnOf_12 : decode cX3_turnOf 12 = .ok (.iadd, 1) := by decide +kernel
theorem dX3_turnOf_13 : decode cX3_turnOf 13 = .ok (.bipush 16, 2) := by decide +kernel
theorem dX3_turnOf_15 : decode cX3_turnOf 15 = .ok (.imul, 1) := by decide +kernel
theorem dX3_turnOf_16 : decode cX3_turnOf 16 = .ok (.aload_n 0, 1) := by decide +kernel
theorem dX3_turnOf_17 : decode cX3_turnOf 17 = .ok (.getfield 127, 3) := by decide +kernel
theorem dX3_turnOf_20 : decode cX3_turnOf 20 = .ok (.iadd, 1) := by decide +kernel
theorem dX3_turnOf_21 : decode cX3_turnOf 21 = .ok (.ireturn, 1) := by decide +kernel
theorem dX3_orderTurns_0 : decode cX3_orderTurns 0 = .ok (.iconst 0, 1) := by decide +kernel
theorem dX3_orderTurns_1 : decode cX3_orderTurns 1 = .ok (.istore_n 1, 1) := by decide +kernel
theorem dX3_orderTurns_2 : decode cX3_orderTurns 2 = .ok (.iload_n 1, 1) := by decide +kernel
theorem dX3_orderTurns_3 : decode cX3_orderTurns 3 = .ok (.aload_n 0, 1) := by decide +kernel
theorem dX3_orderTurns_4 : decode cX3_orderTurns 4 = .ok (.getfield 29, 3) := by decide +kernel
theorem dX3_orderTurns_7 : decode cX3_orderTurns 7 = .ok (.if_icmp .ge 64, 3) := by decide +kernel
theorem dX3_orderTurns_10 : decode cX3_orderTurns 10 = .ok (.aload_n 0, 1) := by decide +kernel
theorem dX3_orderTurns_11 : decode cX3_orderTurns 11 = .ok (.getfield 20, 3) := by decide +kernel
theorem dX3_orderTurns_14 : decode cX3_orderTurns 14 = .ok (.iload_n 1, 1) := by decide +kernel
theorem dX3_orderTurns_15 : decode cX3_orderTurns 15 = .ok (.aaload, 1) := by decide +kernel
theorem dX3_orderTurns_16 : decode cX3_orderTurns 16 = .ok (.invokestatic 289, 3) := by decide +kernel
theorem dX3_orderTurns_19 : decode cX3_orderTurns 19 = .ok (.istore_n 2, 1) := by decide +kernel
theorem dX3_orderTurns_20 : decode cX3_orderTurns 20 = .ok (.iload_n 1, 1) := by decide +kernel
theorem dX3_orderTurns_21 : decode cX3_orderTurns 21 = .ok (.istore_n 3, 1) := by decide +kernel
theorem dX3_orderTurns_22 : decode cX3_orderTurns 22 = .ok (.iload_n 3, 1) := by decide +kernel
theorem dX3_orderTurns_23 : decode cX3_orderTurns 23 = .ok (.ifCond .le 35, 3) := by decide +kernel
theorem dX3_orderTurns_26 : decode cX3_orderTurns 26 = .ok (.aload_n 0, 1) := by decide +kernel
theorem dX3_orderTurns_27 : decode cX3_orderTurns 27 = .ok (.getfield 35, 3) := by decide +kernel
theorem dX3_orderTurns_30 : decode cX3_orderTurns 30 = .ok (.iload_n 3, 1) := by decide +kernel
theorem dX3_orderTurns_31 : decode cX3_orderTurns 31 = .ok (.iconst 1, 1) := by decide +kernel
theorem dX3_orderTurns_32 : decode cX3_orderTurns 32 = .ok (.isub, 1) := by decide +kernel
theorem dX3_orderTurns_33 : decode cX3_orderTurns 33 = .ok (.iaload, 1) := by decide +kernel
theorem dX3_orderTurns_34 : decode cX3_orderTurns 34 = .ok (.iload_n 2, 1) := by decide +kernel
theorem dX3_orderTurns_35 : decode cX3_orderTurns 35 = .ok (.if_icmp .le 23, 3) := by decide +kernel
theorem dX3_orderTurns_38 : decode cX3_orderTurns 38 = .ok (.aload_n 0, 1) := by decide +kernel
theorem dX3_orderTurns_39 : decode cX3_orderTurns 39 = .ok (.getfield 35, 3) := by decide +kernel
theorem dX3_orderTurns_42 : decode cX3_orderTurns 42 = .ok (.iload_n 3, 1) := by decide +kernel
theorem dX3_orderTurns_43 : decode cX3_orderTurns 43 = .ok (.aload_n 0, 1) := by decide +kernel
theorem dX3_orderTurns_44 : decode cX3_orderTurns 44 = .ok (.getfield 35, 3) := by decide +kernel
theorem dX3_orderTurns_47 : decode cX3_orderTurns 47 = .ok (.iload_n 3, 1) := by decide +kernel
theorem dX3_orderTurns_48 : decode cX3_orderTurns 48 = .ok (.iconst 1, 1) := by decide +kernel
theorem dX3_orderTurns_49 : decode cX3_orderTurns 49 = .ok (.isub, 1) := by decide +kernel
theorem dX3_orderTurns_50 : decode cX3_orderTurns 50 = .ok (.iaload, 1) := by decide +kernel
theorem dX3_orderTurns_51 : decode cX3_orderTurns 51 = .ok (.iastore, 1) := by decide +kernel
theorem dX3_orderTurns_52 : decode cX3_orderTurns 52 = .ok (.iinc 3 (-1), 3) := by decide +kernel
theorem dX3_orderTurns_55 : decode cX3_orderTurns 55 = .ok (.goto (-33), 3) := by decide +kernel
theorem dX3_orderTurns_58 : decode cX3_orderTurns 58 = .ok (.aload_n 0, 1) := by decide +kernel
theorem dX3_orderTurns_59 : decode cX3_orderTurns 59 = .ok (.getfield 35, 3) := by decide +kernel
theorem dX3_orderTurns_62 : decode cX3_orderTurns 62 = .ok (.iload_n 3, 1) := by decide +kernel
theorem dX3_orderTurns_63 : decode cX3_orderTurns 63 = .ok (.iload_n 2, 1) := by decide +kernel
theorem dX3_orderTurns_64 : decode cX3_orderTurns 64 = .ok (.iastore, 1) := by decide +kernel
theorem dX3_orderTurns_65 : decode cX3_orderTurns 65 = .ok (.iinc 1 1, 3) := by decide +kernel
theorem dX3_orderTurns_68 : decode cX3_orderTurns 68 = .ok (.goto (-66), 3) := by decide +kernel
theorem dX3_orderTurns_71 : decode cX3_orderTurns 71 = .ok (.return_, 1) := by decide +kernel
theorem dX3_takeTurn_0 : decode cX3_takeTurn 0 = .ok (.iconst 0, 1) := by decide +kernel
theorem dX3_takeTurn_1 : decode cX3_takeTurn 1 = .ok (.istore_n 2, 1) := by decide +kernel
theorem dX3_takeTurn_2 : decode cX3_takeTurn 2 = .ok (.iload_n 2, 1) := by decide +kernel
theorem dX3_takeTurn_3 : decode cX3_takeTurn 3 = .ok (.aload_n 1, 1) := by decide +kernel
theorem dX3_takeTurn_4 : decode cX3_takeTurn 4 = .ok (.getfield 140, 3) := by decide +kernel
theorem dX3_takeTurn_7 : decode cX3_takeTurn 7 = .ok (.invokevirtual 164, 3) := by decide +kernel
theorem dX3_takeTurn_10 : decode cX3_takeTurn 10 = .ok (.if_icmp .ge 51, 3) := by decide +kernel
theorem dX3_takeTurn_13 : decode cX3_takeTurn 13 = .ok (.aload_n 0, 1) := by decide +kernel
theorem dX3_takeTurn_14 : decode cX3_takeTurn 14 = .ok (.aload_n 1, 1) := by decide +kernel
theorem dX3_takeTurn_15 : decode cX3_takeTurn 15 = .ok (.getfield 140, 3) := by decide +kernel
theorem dX3_takeTurn_18 : decode cX3_takeTurn 18 = .ok (.iload_n 2, 1) := by decide +kernel
theorem dX3_takeTurn_19 : decode cX3_takeTurn 19 = .ok (.invokevirtual 259, 3) := by decide +kernel
theorem dX3_takeTurn_22 : decode cX3_takeTurn 22 = .ok (.invokevirtual 68, 3) := by decide +kernel
theorem dX3_takeTurn_25 : decode cX3_takeTurn 25 = .ok (.astore_n 3, 1) := by decide +kernel
theorem dX3_takeTurn_26 : decode cX3_takeTurn 26 = .ok (.aload_n 0, 1) := by decide +kernel
theorem dX3_takeTurn_27 : decode cX3_takeTurn 27 = .ok (.aload_n 3, 1) := by decide +kernel
theorem dX3_takeTurn_28 : decode cX3_takeTurn 28 = .ok (.invokevirtual 114, 3) := by decide +kernel
theorem dX3_takeTurn_31 : decode cX3_takeTurn 31 = .ok (.ifCond .le 24, 3) := by decide +kernel
theorem dX3_takeTurn_34 : decode cX3_takeTurn 34 = .ok (.aload_n 0, 1) := by decide +kernel
theorem dX3_takeTurn_35 : decode cX3_takeTurn 35 = .ok (.aload_n 1, 1) := by decide +kernel
theorem dX3_takeTurn_36 : decode cX3_takeTurn 36 = .ok (.aload_n 3, 1) := by decide +kernel
theorem dX3_takeTurn_37 : decode cX3_takeTurn 37 = .ok (.aload_n 1, 1) := by decide +kernel
theorem dX3_takeTurn_38 : decode cX3_takeTurn 38 = .ok (.getfield 135, 3) := by decide +kernel
theorem dX3_takeTurn_41 : decode cX3_takeTurn 41 = .ok (.invokevirtual 155, 3) := by decide +kernel
theorem dX3_takeTurn_44 : decode cX3_takeTurn 44 = .ok (.ifCond .ne 11, 3) := by decide +kernel
theorem dX3_takeTurn_47 : decode cX3_takeTurn 47 = .ok (.aload_n 0, 1) := by decide +kernel
theorem dX3_takeTurn_48 : decode cX3_takeTurn 48 = .ok (.aload_n 1, 1) := by decide +kernel
theorem dX3_takeTurn_49 : decode cX3_takeTurn 49 = .ok (.aload_n 3, 1) := by decide +kernel
theorem dX3_takeTurn_50 : decode cX3_takeTurn 50 = .ok (.invokevirtual 186, 3) := by decide +kernel
theorem dX3_takeTurn_53 : decode cX3_takeTurn 53 = .ok (.iconst 1, 1) := by decide +kernel
theorem dX3_takeTurn_54 : decode cX3_takeTurn 54 = .ok (.ireturn, 1) := by decide +kernel
theorem dX3_takeTurn_55 : decode cX3_takeTurn 55 = .ok (.iinc 2 1, 3) := by decide +kernel
theorem dX3_takeTurn_58 : decode cX3_takeTurn 58 = .ok (.goto (-56), 3) := by decide +kernel
theorem dX3_takeTurn_61 : decode cX3_takeTurn 61 = .ok (.iconst 0, 1) := by decide +kernel
theorem dX3_takeTurn_62 : decode cX3_takeTurn 62 = .ok (.ireturn, 1) := by decide +kernel
theorem dX3_participants_0 : decode cX3_participants 0 = .ok (.iconst 0, 1) := by decide +kernel
theorem dX3_participants_1 : decode cX3_participants 1 = .ok (.istore_n 1, 1) := by decide +kernel
theorem dX3_participants_2 : decode cX3_participants 2 = .ok (.iconst 0, 1) := by decide +kernel
theorem dX3_participants_3 : decode cX3_participants 3 = .ok (.istore_n 2, 1) := by decide +kernel
theorem dX3_participants_4 : decode cX3_participants 4 = .ok (.iload_n 2, 1) := by decide +kernel
theorem dX3_participants_5 : decode cX3_participants 5 = .ok (.aload_n 0, 1) := by decide +kernel
theorem dX3_participants_6 : decode cX3_participants 6 = .ok (.getfield 29, 3) := by decide +kernel
theorem dX3_participants_9 : decode cX3_participants 9 = .ok (.if_icmp .ge 29, 3) := by decide +kernel
theorem dX3_participants_12 : decode cX3_participants 12 = .ok (.aload_n 0, 1) := by decide +kernel
theorem dX3_participants_13 : decode cX3_participants 13 = .ok (.getfield 20, 3) := by decide +kernel
theorem dX3_participants_16 : decode cX3_participants 16 = .ok (.iload_n 2, 1) := by decide +kernel
theorem dX3_participants_17 : decode cX3_participants 17 = .ok (.aaload, 1) := by decide +kernel
theorem dX3_participants_18 : decode cX3_participants 18 = .ok (.getfield 231, 3) := by decide +kernel
theorem dX3_participants_21 : decode cX3_participants 21 = .ok (.iconst (-1), 1) := by decide +kernel
theorem dX3_participants_22 : decode cX3_participants 22 = .ok (.if_icmp .eq 10, 3) := by decide +kernel
theorem dX3_participants_25 : decode cX3_participants 25 = .ok (.iload_n 1, 1) := by decide +kernel
theorem dX3_participants_26 : decode cX3_participants 26 = .ok (.iload_n 2, 1) := by decide +kernel
theorem dX3_participants_27 : decode cX3_participants 27 = .ok (.invokestatic 95, 3) := by decide +kernel
theorem dX3_participants_30 : decode cX3_participants 30 = .ok (.ior, 1) := by decide +kernel
theorem dX3_participants_31 : decode cX3_participants 31 = .ok (.istore_n 1, 1) := by decide +kernel
theorem dX3_participants_32 : decode cX3_participants 32 = .ok (.iinc 2 1, 3) := by decide +kernel
theorem dX3_participants_35 : decode cX3_participants 35 = .ok (.goto (-31), 3) := by decide +kernel
theorem dX3_participants_38 : decode cX3_participants 38 = .ok (.iload_n 1, 1) := by decide +kernel
theorem dX3_participants_39 : decode cX3_participants 39 = .ok (.ireturn, 1) := by decide +kernel
theorem dX3_isAcceptable_0 : decode cX3_isAcceptable 0 = .ok (.aload_n 1, 1) := by decide +kernel
theorem dX3_isAcceptable_1 : decode cX3_isAcceptable 1 = .ok (.getfield 135, 3) := by decide +kernel
theorem dX3_isAcceptable_4 : decode cX3_isAcceptable 4 = .ok (.aload_n 1, 1) := by decide +kernel
theorem dX3_isAcceptable_5 : decode cX3_isAcceptable 5 = .ok (.getfield 231, 3) := by decide +kernel
theorem dX3_isAcceptable_8 : decode cX3_isAcceptable 8 = .ok (.invokestatic 95, 3) := by decide +kernel
theorem dX3_isAcceptable_11 : decode cX3_isAcceptable 11 = .ok (.iconst (-1), 1) := by decide +kernel
theorem dX3_isAcceptable_12 : decode cX3_isAcceptable 12 = .ok (.ixor, 1) := by decide +kernel
theorem dX3_isAcceptable_13 : decode cX3_isAcceptable 13 = .ok (.iand, 1) := by decide +kernel
theorem dX3_isAcceptable_14 : decode cX3_isAcceptable 14 = .ok (.istore_n 3, 1) := by decide +kernel
theorem dX3_isAcceptable_15 : decode cX3_isAcceptable 15 = .ok (.aload_n 0, 1) := by decide +kernel
theorem dX3_isAcceptable_16 : decode cX3_isAcceptable 16 = .ok (.aload_n 1, 1) := by decide +kernel
theorem dX3_isAcceptable_17 : decode cX3_isAcceptable 17 = .ok (.aload_n 2, 1) := by decide +kernel
theorem dX3_isAcceptable_18 : decode cX3_isAcceptable 18 = .ok (.iload_n 3, 1) := by decide +kernel
theorem dX3_isAcceptable_19 : decode cX3_isAcceptable 19 = .ok (.invokevirtual 155, 3) := by decide +kernel
theorem dX3_isAcceptable_22 : decode cX3_isAcceptable 22 = .ok (.ifCond .ne 7, 3) := by decide +kernel
theorem dX3_isAcceptable_25 : decode cX3_isAcceptable 25 = .ok (.iconst 1, 1) := by decide +kernel
theorem dX3_isAcceptable_26 : decode cX3_isAcceptable 26 = .ok (.goto 4, 3) := by decide +kernel
theorem dX3_isAcceptable_29 : decode cX3_isAcceptable 29 = .ok (.iconst 0, 1) := by decide +kernel
theorem dX3_isAcceptable_30 : decode cX3_isAcceptable 30 = .ok (.ireturn, 1) := by decide +kernel
theorem dX3_firstWhoPutUp_0 : decode cX3_firstWhoPutUp 0 = .ok (.iconst 0, 1) := by decide +kernel
theorem dX3_firstWhoPutUp_1 : decode cX3_firstWhoPutUp 1 = .ok (.istore_n 3, 1) := by decide +kernel
theorem dX3_firstWhoPutUp_2 : decode cX3_firstWhoPutUp 2 = .ok (.iload_n 3, 1) := by decide +kernel
theorem dX3_firstWhoPutUp_3 : decode cX3_firstWhoPutUp 3 = .ok (.aload_n 0, 1) := by decide +kernel
theorem dX3_firstWhoPutUp_4 : decode cX3_firstWhoPutUp 4 = .ok (.getfield 29, 3) := by decide +kernel
theorem dX3_firstWhoPutUp_7 : decode cX3_firstWhoPutUp 7 = .ok (.if_icmp .ge 32, 3) := by decide +kernel
theorem dX3_firstWhoPutUp_10 : decode cX3_firstWhoPutUp 10 = .ok (.iload_n 2, 1) := by decide +kernel
theorem dX3_firstWhoPutUp_11 : decode cX3_firstWhoPutUp 11 = .ok (.iload_n 3, 1) := by decide +kernel
theorem dX3_firstWhoPutUp_12 : decode cX3_firstWhoPutUp 12 = .ok (.invokestatic 86, 3) := by decide +kernel
theorem dX3_firstWhoPutUp_15 : decode cX3_firstWhoPutUp 15 = .ok (.ifCond .eq 18, 3) := by decide +kernel
theorem dX3_firstWhoPutUp_18 : decode cX3_firstWhoPutUp 18 = .ok (.aload_n 0, 1) := by decide +kernel
theorem dX3_firstWhoPutUp_19 : decode cX3_firstWhoPutUp 19 = .ok (.getfield 20, 3) := by decide +kernel
theorem dX3_firstWhoPutUp_22 : decode cX3_firstWhoPutUp 22 = .ok (.iload_n 3, 1) := by decide +kernel
theorem dX3_firstWhoPutUp_23 : decode cX3_firstWhoPutUp 23 = .ok (.aaload, 1) := by decide +kernel
theorem dX3_firstWhoPutUp_24 : decode cX3_firstWhoPutUp 24 = .ok (.getfield 231, 3) := by decide +kernel
theorem dX3_firstWhoPutUp_27 : decode cX3_firstWhoPutUp 27 = .ok (.iload_n 1, 1) := by decide +kernel
theorem dX3_firstWhoPutUp_28 : decode cX3_firstWhoPutUp 28 = .ok (.if_icmp .ne 5, 3) := by decide +kernel
theorem dX3_firstWhoPutUp_31 : decode cX3_firstWhoPutUp 31 = .ok (.iload_n 3, 1) := by decide +kernel
theorem dX3_firstWhoPutUp_32 : decode cX3_firstWhoPutUp 32 = .ok (.ireturn, 1) := by decide +kernel
theorem dX3_firstWhoPutUp_33 : decode cX3_firstWhoPutUp 33 = .ok (.iinc 3 1, 3) := by decide +kernel
theorem dX3_firstWhoPutUp_36 : decode cX3_firstWhoPutUp 36 = .ok (.goto (-34), 3) := by decide +kernel
theorem dX3_firstWhoPutUp_39 : decode cX3_firstWhoPutUp 39 = .ok (.iconst (-1), 1) := by decide +kernel
theorem dX3_firstWhoPutUp_40 : decode cX3_firstWhoPutUp 40 = .ok (.ireturn, 1) := by decide +kernel
theorem dX3_targetOf_0 : decode cX3_targetOf 0 = .ok (.iconst 0, 1) := by decide +kernel
theorem dX3_targetOf_1 : decode cX3_targetOf 1 = .ok (.istore_n 3, 1) := by decide +kernel
theorem dX3_targetOf_2 : decode cX3_targetOf 2 = .ok (.iload_n 3, 1) := by decide +kernel
theorem dX3_targetOf_3 : decode cX3_targetOf 3 = .ok (.aload_n 1, 1) := by decide +kernel
theorem dX3_targetOf_4 : decode cX3_targetOf 4 = .ok (.getfield 140, 3) := by decide +kernel
theorem dX3_targetOf_7 : decode cX3_targetOf 7 = .ok (.invokevirtual 164, 3) := by decide +kernel
theorem dX3_targetOf_10 : decode cX3_targetOf 10 = .ok (.if_icmp .ge 54, 3) := by decide +kernel
theorem dX3_targetOf_13 : decode cX3_targetOf 13 = .ok (.aload_n 0, 1) := by decide +kernel
theorem dX3_targetOf_14 : decode cX3_targetOf 14 = .ok (.aload_n 1, 1) := by decide +kernel
theorem dX3_targetOf_15 : decode cX3_targetOf 15 = .ok (.getfield 140, 3) := by decide +kernel
theorem dX3_targetOf_18 : decode cX3_targetOf 18 = .ok (.iload_n 3, 1) := by decide +kernel
theorem dX3_targetOf_19 : decode cX3_targetOf 19 = .ok (.invokevirtual 259, 3) := by decide +kernel
theorem dX3_targetOf_22 : decode cX3_targetOf 22 = .ok (.invokevirtual 68, 3) := by decide +kernel
theorem dX3_targetOf_25 : decode cX3_targetOf 25 = .ok (.astore 4, 2) := by decide +kernel
theorem dX3_targetOf_27 : decode cX3_targetOf 27 = .ok (.aload_n 0, 1) := by decide +kernel
theorem dX3_targetOf_28 : decode cX3_targetOf 28 = .ok (.aload 4, 2) := by decide +kernel
theorem dX3_targetOf_30 : decode cX3_targetOf 30 = .ok (.getfield 65, 3) := by decide +kernel
theorem dX3_targetOf_33 : decode cX3_targetOf 33 = .ok (.iload_n 2, 1) := by decide +kernel
theorem dX3_targetOf_34 : decode cX3_targetOf 34 = .ok (.invokevirtual 293, 3) := by decide +kernel
theorem dX3_targetOf_37 : decode cX3_targetOf 37 = .ok (.istore 5, 2) := by decide +kernel
theorem dX3_targetOf_39 : decode cX3_targetOf 39 = .ok (.iload 5, 2) := by decide +kernel
theorem dX3_targetOf_41 : decode cX3_targetOf 41 = .ok (.iconst (-1), 1) := by decide +kernel
theorem dX3_targetOf_42 : decode cX3_targetOf 42 = .ok (.if_icmp .eq 16, 3) := by decide +kernel
theorem dX3_targetOf_45 : decode cX3_targetOf 45 = .ok (.aload_n 0, 1) := by decide +kernel
theorem dX3_targetOf_46 : decode cX3_targetOf 46 = .ok (.aload_n 1, 1) := by decide +kernel
theorem dX3_targetOf_47 : decode cX3_targetOf 47 = .ok (.aload 4, 2) := by decide +kernel
theorem dX3_targetOf_49 : decode cX3_targetOf 49 = .ok (.invokevirtual 297, 3) := by decide +kernel
theorem dX3_targetOf_52 : decode cX3_targetOf 52 = .ok (.ifCond .eq 6, 3) := by decide +kernel
theorem dX3_targetOf_55 : decode cX3_targetOf 55 = .ok (.iload 5, 2) := by decide +kernel
theorem dX3_targetOf_57 : decode cX3_targetOf 57 = .ok (.ireturn, 1) := by decide +kernel
theorem dX3_targetOf_58 : decode cX3_targetOf 58 = .ok (.iinc 3 1, 3) := by decide +kernel
theorem dX3_targetOf_61 : decode cX3_targetOf 61 = .ok (.goto (-59), 3) := by decide +kernel
theorem dX3_targetOf_64 : decode cX3_targetOf 64 = .ok (.aload_n 1, 1) := by decide +kernel
theorem dX3_targetOf_65 : decode cX3_targetOf 65 = .ok (.getfield 127, 3) := by decide +kernel
theorem dX3_targetOf_68 : decode cX3_targetOf 68 = .ok (.ireturn, 1) := by decide +kernel
theorem dX3_pointAll_0 : decode cX3_pointAll 0 = .ok (.iconst 0, 1) := by decide +kernel
theorem dX3_pointAll_1 : decode cX3_pointAll 1 = .ok (.istore_n 2, 1) := by decide +kernel
theorem dX3_pointAll_2 : decode cX3_pointAll 2 = .ok (.iload_n 2, 1) := by decide +kernel
theorem dX3_pointAll_3 : decode cX3_pointAll 3 = .ok (.aload_n 0, 1) := by decide +kernel
theorem dX3_pointAll_4 : decode cX3_pointAll 4 = .ok (.getfield 29, 3) := by decide +kernel
theorem dX3_pointAll_7 : decode cX3_pointAll 7 = .ok (.if_icmp .ge 34, 3) := by decide +kernel
theorem dX3_pointAll_10 : decode cX3_pointAll 10 = .ok (.iload_n 1, 1) := by decide +kernel
theorem dX3_pointAll_11 : decode cX3_pointAll 11 = .ok (.iload_n 2, 1) := by decide +kernel
theorem dX3_pointAll_12 : decode cX3_pointAll 12 = .ok (.invokestatic 86, 3) := by decide +kernel
theorem dX3_pointAll_15 : decode cX3_pointAll 15 = .ok (.ifCond .eq 20, 3) := by decide +kernel
theorem dX3_pointAll_18 : decode cX3_pointAll 18 = .ok (.aload_n 0, 1) := by decide +kernel
theorem dX3_pointAll_19 : decode cX3_pointAll 19 = .ok (.getfield 20, 3) := by decide +kernel
theorem dX3_pointAll_22 : decode cX3_pointAll 22 = .ok (.iload_n 2, 1) := by decide +kernel
theorem dX3_pointAll_23 : decode cX3_pointAll 23 = .ok (.aaload, 1) := by decide +kernel
theorem dX3_pointAll_24 : decode cX3_pointAll 24 = .ok (.astore_n 3, 1) := by decide +kernel
theorem dX3_pointAll_25 : decode cX3_pointAll 25 = .ok (.aload_n 3, 1) := by decide +kernel
theorem dX3_pointAll_26 : decode cX3_pointAll 26 = .ok (.aload_n 0, 1) := by decide +kernel
theorem dX3_pointAll_27 : decode cX3_pointAll 27 = .ok (.aload_n 3, 1) := by decide +kernel
theorem dX3_pointAll_28 : decode cX3_pointAll 28 = .ok (.iload_n 1, 1) := by decide +kernel
theorem dX3_pointAll_29 : decode cX3_pointAll 29 = .ok (.invokevirtual 239, 3) := by decide +kernel
theorem dX3_pointAll_32 : decode cX3_pointAll 32 = .ok (.putfield 301, 3) := by decide +kernel
theorem dX3_pointAll_35 : decode cX3_pointAll 35 = .ok (.iinc 2 1, 3) := by decide +kernel
theorem dX3_pointAll_38 : decode cX3_pointAll 38 = .ok (.goto (-36), 3) := by decide +kernel
theorem dX3_pointAll_41 : decode cX3_pointAll 41 = .ok (.return_, 1) := by decide +kernel
theorem dX3_isOnCircle_0 : decode cX3_isOnCircle 0 = .ok (.aload_n 0, 1) := by decide +kernel
theorem dX3_isOnCircle_1 : decode cX3_isOnCircle 1 = .ok (.aload_n 1, 1) := by decide +kernel
theorem dX3_isOnCircle_2 : decode cX3_isOnCircle 2 = .ok (.getfield 301, 3) := by decide +kernel
theorem dX3_isOnCircle_5 : decode cX3_isOnCircle 5 = .ok (.invokevirtual 128, 3) := by decide +kernel
theorem dX3_isOnCircle_8 : decode cX3_isOnCircle 8 = .ok (.astore_n 2, 1) := by decide +kernel
theorem dX3_isOnCircle_9 : decode cX3_isOnCircle 9 = .ok (.iconst 1, 1) := by decide +kernel
theorem dX3_isOnCircle_10 : decode cX3_isOnCircle 10 = .ok (.istore_n 3, 1) := by decide +kernel
theorem dX3_isOnCircle_11 : decode cX3_isOnCircle 11 = .ok (.iload_n 3, 1) := by decide +kernel
theorem dX3_isOnCircle_12 : decode cX3_isOnCircle 12 = .ok (.aload_n 0, 1) := by decide +kernel
theorem dX3_isOnCircle_13 : decode cX3_isOnCircle 13 = .ok (.getfield 29, 3) := by decide +kernel
theorem dX3_isOnCircle_16 : decode cX3_isOnCircle 16 = .ok (.if_icmp .ge 23, 3) := by decide +kernel
theorem dX3_isOnCircle_19 : decode cX3_isOnCircle 19 = .ok (.aload_n 2, 1) := by decide +kernel
theorem dX3_isOnCircle_20 : decode cX3_isOnCircle 20 = .ok (.aload_n 1, 1) := by decide +kernel
theorem dX3_isOnCircle_21 : decode cX3_isOnCircle 21 = .ok (.if_acmp .eq 18, 3) := by decide +kernel
theorem dX3_isOnCircle_24 : decode cX3_isOnCircle 24 = .ok (.aload_n 0, 1) := by decide +kernel
theorem dX3_isOnCircle_25 : decode cX3_isOnCircle 25 = .ok (.aload_n 2, 1) := by decide +kernel
theorem dX3_isOnCircle_26 : decode cX3_isOnCircle 26 = .ok (.getfield 301, 3) := by decide +kernel
theorem dX3_isOnCircle_29 : decode cX3_isOnCircle 29 = .ok (.invokevirtual 128, 3) := by decide +kernel
theorem dX3_isOnCircle_32 : decode cX3_isOnCircle 32 = .ok (.astore_n 2, 1) := by decide +kernel
theorem dX3_isOnCircle_33 : decode cX3_isOnCircle 33 = .ok (.iinc 3 1, 3) := by decide +kernel
theorem dX3_isOnCircle_36 : decode cX3_isOnCircle 36 = .ok (.goto (-25), 3) := by decide +kernel
theorem dX3_isOnCircle_39 : decode cX3_isOnCircle 39 = .ok (.aload_n 2, 1) := by decide +kernel
theorem dX3_isOnCircle_40 : decode cX3_isOnCircle 40 = .ok (.aload_n 1, 1) := by decide +kernel
theorem dX3_isOnCircle_41 : decode cX3_isOnCircle 41 = .ok (.if_acmp .ne 7, 3) := by decide +kernel
theorem dX3_isOnCircle_44 : decode cX3_isOnCircle 44 = .ok (.iconst 1, 1) := by decide +kernel
theorem dX3_isOnCircle_45 : decode cX3_isOnCircle 45 = .ok (.goto 4, 3) := by decide +kernel
theorem dX3_isOnCircle_48 : decode cX3_isOnCircle 48 = .ok (.iconst 0, 1) := by decide +kernel
theorem dX3_isOnCircle_49 : decode cX3_isOnCircle 49 = .ok (.ireturn, 1) := by decide +kernel
theorem dX3_onCircles_0 : decode cX3_onCircles 0 = .ok (.iconst 0, 1) := by decide +kernel
theorem dX3_onCircles_1 : decode cX3_onCircles 1 = .ok (.istore_n 2, 1) := by decide +kernel
theorem dX3_onCircles_2 : decode cX3_onCircles 2 = .ok (.iconst 0, 1) := by decide +kernel
theorem dX3_onCircles_3 : decode cX3_onCircles 3 = .ok (.istore_n 3, 1) := by decide +kernel
theorem dX3_onCircles_4 : decode cX3_onCircles 4 = .ok (.iload_n 3, 1) := by decide +kernel
theorem dX3_onCircles_5 : decode cX3_onCircles 5 = .ok (.aload_n 0, 1) := by decide +kernel
theorem dX3_onCircles_6 : decode cX3_onCircles 6 = .ok (.getfield 29, 3) := by decide +kernel
theorem dX3_onCircles_9 : decode cX3_onCircles 9 = .ok (.if_icmp .ge 37, 3) := by decide +kernel
theorem dX3_onCircles_12 : decode cX3_onCircles 12 = .ok (.iload_n 1, 1) := by decide +kernel
theorem dX3_onCircles_13 : decode cX3_onCircles 13 = .ok (.iload_n 3, 1) := by decide +kernel
theorem dX3_onCircles_14 : decode cX3_onCircles 14 = .ok (.invokestatic 86, 3) := by decide +kernel
theorem dX3_onCircles_17 : decode cX3_onCircles 17 = .ok (.ifCond .eq 23, 3) := by decide +kernel
theorem dX3_onCircles_20 : decode cX3_onCircles 20 = .ok (.aload_n 0, 1) := by decide +kernel
theorem dX3_onCircles_21 : decode cX3_onCircles 21 = .ok (.aload_n 0, 1) := by decide +kernel
theorem dX3_onCircles_22 : decode cX3_onCircles 22 = .ok (.getfield 20, 3) := by decide +kernel
theorem dX3_onCircles_25 : decode cX3_onCircles 25 = .ok (.iload_n 3, 1) := by decide +kernel
theorem dX3_onCircles_26 : decode cX3_onCircles 26 = .ok (.aaload, 1) := by decide +kernel
theorem dX3_onCircles_27 : decode cX3_onCircles 27 = .ok (.invokevirtual 304, 3) := by decide +kernel
theorem dX3_onCircles_30 : decode cX3_onCircles 30 = .ok (.ifCond .eq 10, 3) := by decide +kernel
theorem dX3_onCircles_33 : decode cX3_onCircles 33 = .ok (.iload_n 2, 1) := by decide +kernel
theorem dX3_onCircles_34 : decode cX3_onCircles 34 = .ok (.iload_n 3, 1) := by decide +kernel
theorem dX3_onCircles_35 : decode cX3_onCircles 35 = .ok (.invokestatic 95, 3) := by decide +kernel
theorem dX3_onCircles_38 : decode cX3_onCircles 38 = .ok (.ior, 1) := by decide +kernel
theorem dX3_onCircles_39 : decode cX3_onCircles 39 = .ok (.istore_n 2, 1) := by decide +kernel
theorem dX3_onCircles_40 : decode cX3_onCircles 40 = .ok (.iinc 3 1, 3) := by decide +kernel
theorem dX3_onCircles_43 : decode cX3_onCircles 43 = .ok (.goto (-39), 3) := by decide +kernel
theorem dX3_onCircles_46 : decode cX3_onCircles 46 = .ok (.iload_n 2, 1) := by decide +kernel
theorem dX3_onCircles_47 : decode cX3_onCircles 47 = .ok (.ireturn, 1) := by decide +kernel
theorem dX3_movePlaces_0 : decode cX3_movePlaces 0 = .ok (.iconst 0, 1) := by decide +kernel
theorem dX3_movePlaces_1 : decode cX3_movePlaces 1 = .ok (.istore_n 2, 1) := by decide +kernel
theorem dX3_movePlaces_2 : decode cX3_movePlaces 2 = .ok (.iload_n 2, 1) := by decide +kernel
theorem dX3_movePlaces_3 : decode cX3_movePlaces 3 = .ok (.aload_n 0, 1) := by decide +kernel
theorem dX3_movePlaces_4 : decode cX3_movePlaces 4 = .ok (.getfield 29, 3) := by decide +kernel
theorem dX3_movePlaces_7 : decode cX3_movePlaces 7 = .ok (.if_icmp .ge 63, 3) := by decide +kernel
theorem dX3_movePlaces_10 : decode cX3_movePlaces 10 = .ok (.aload_n 0, 1) := by decide +kernel
theorem dX3_movePlaces_11 : decode cX3_movePlaces 11 = .ok (.getfield 20, 3) := by decide +kernel
theorem dX3_movePlaces_14 : decode cX3_movePlaces 14 = .ok (.iload_n 2, 1) := by decide +kernel
theorem dX3_movePlaces_15 : decode cX3_movePlaces 15 = .ok (.aaload, 1) := by decide +kernel
theorem dX3_movePlaces_16 : decode cX3_movePlaces 16 = .ok (.astore_n 3, 1) := by decide +kernel
theorem dX3_movePlaces_17 : decode cX3_movePlaces 17 = .ok (.iload_n 1, 1) := by decide +kernel
theorem dX3_movePlaces_18 : decode cX3_movePlaces 18 = .ok (.iload_n 2, 1) := by decide +kernel
theorem dX3_movePlaces_19 : decode cX3_movePlaces 19 = .ok (.invokestatic 86, 3) := by decide +kernel
theorem dX3_movePlaces_22 : decode cX3_movePlaces 22 = .ok (.ifCond .eq 15, 3) := by decide +kernel
theorem dX3_movePlaces_25 : decode cX3_movePlaces 25 = .ok (.aload_n 3, 1) := by decide +kernel
theorem dX3_movePlaces_26 : decode cX3_movePlaces 26 = .ok (.getfield 301, 3) := by decide +kernel
theorem dX3_movePlaces_29 : decode cX3_movePlaces 29 = .ok (.iload_n 2, 1) := by decide +kernel
theorem dX3_movePlaces_30 : decode cX3_movePlaces 30 = .ok (.if_icmp .eq 7, 3) := by decide +kernel
theorem dX3_movePlaces_33 : decode cX3_movePlaces 33 = .ok (.iconst 1, 1) := by decide +kernel
theorem dX3_movePlaces_34 : decode cX3_movePlaces 34 = .ok (.goto 4, 3) := by decide +kernel
theorem dX3_movePlaces_37 : decode cX3_movePlaces 37 = .ok (.iconst 0, 1) := by decide +kernel
theorem dX3_movePlaces_38 : decode cX3_movePlaces 38 = .ok (.istore 4, 2) := by decide +kernel
theorem dX3_movePlaces_40 : decode cX3_movePlaces 40 = .ok (.aload_n 3, 1) := by decide +kernel
theorem dX3_movePlaces_41 : decode cX3_movePlaces 41 = .ok (.iload 4, 2) := by decide +kernel
theorem dX3_movePlaces_43 : decode cX3_movePlaces 43 = .ok (.ifCond .eq 17, 3) := by decide +kernel
theorem dX3_movePlaces_46 : decode cX3_movePlaces 46 = .ok (.aload_n 0, 1) := by decide +kernel
theorem dX3_movePlaces_47 : decode cX3_movePlaces 47 = .ok (.aload_n 3, 1) := by decide +kernel
theorem dX3_movePlaces_48 : decode cX3_movePlaces 48 = .ok (.getfield 301, 3) := by decide +kernel
theorem dX3_movePlaces_51 : decode cX3_movePlaces 51 = .ok (.invokevirtual 128, 3) := by decide +kernel
theorem dX3_movePlaces_54 : decode cX3_movePlaces 54 = .ok (.getfield 231, 3) := by decide +kernel
theorem dX3_movePlaces_57 : decode cX3_movePlaces 57 = .ok (.goto 4, 3) := by decide +kernel
theorem dX3_movePlaces_60 : decode cX3_movePlaces 60 = .ok (.iconst (-1), 1) := by decide +kernel
theorem dX3_movePlaces_61 : decode cX3_movePlaces 61 = .ok (.putfield 307, 3) := by decide +kernel
theorem dX3_movePlaces_64 : decode cX3_movePlaces 64 = .ok (.iinc 2 1, 3) := by decide +kernel
theorem dX3_movePlaces_67 : decode cX3_movePlaces 67 = .ok (.goto (-65), 3) := by decide +kernel
theorem dX3_movePlaces_70 : decode cX3_movePlaces 70 = .ok (.iconst 0, 1) := by decide +kernel
theorem dX3_movePlaces_71 : decode cX3_movePlaces 71 = .ok (.istore_n 2, 1) := by decide +kernel
theorem dX3_movePlaces_72 : decode cX3_movePlaces 72 = .ok (.iconst 0, 1) := by decide +kernel
theorem dX3_movePlaces_73 : decode cX3_movePlaces 73 = .ok (.istore_n 3, 1) := by decide +kernel
theorem dX3_movePlaces_74 : decode cX3_movePlaces 74 = .ok (.iload_n 3, 1) := by decide +kernel
theorem dX3_movePlaces_75 : decode cX3_movePlaces 75 = .ok (.aload_n 0, 1) := by decide +kernel
theorem dX3_movePlaces_76 : decode cX3_movePlaces 76 = .ok (.getfield 29, 3) := by decide +kernel
theorem dX3_movePlaces_79 : decode cX3_movePlaces 79 = .ok (.if_icmp .ge 59, 3) := by decide +kernel
theorem dX3_movePlaces_82 : decode cX3_movePlaces 82 = .ok (.aload_n 0, 1) := by decide +kernel
theorem dX3_movePlaces_83 : decode cX3_movePlaces 83 = .ok (.getfield 20, 3) := by decide +kernel
theorem dX3_movePlaces_86 : decode cX3_movePlaces 86 = .ok (.iload_n 3, 1) := by decide +kernel
theorem dX3_movePlaces_87 : decode cX3_movePlaces 87 = .ok (.aaload, 1) := by decide +kernel
theorem dX3_movePlaces_88 : decode cX3_movePlaces 88 = .ok (.astore 4, 2) := by decide +kernel
theorem dX3_movePlaces_90 : decode cX3_movePlaces 90 = .ok (.aload 4, 2) := by decide +kernel
theorem dX3_movePlaces_92 : decode cX3_movePlaces 92 = .ok (.getfield 307, 3) := by decide +kernel
theorem dX3_movePlaces_95 : decode cX3_movePlaces 95 = .ok (.iconst (-1), 1) := by decide +kernel
theorem dX3_movePlaces_96 : decode cX3_movePlaces 96 = .ok (.if_icmp .eq 36, 3) := by decide +kernel
theorem dX3_movePlaces_99 : decode cX3_movePlaces 99 = .ok (.aload_n 0, 1) := by decide +kernel
theorem dX3_movePlaces_100 : decode cX3_movePlaces 100 = .ok (.aload 4, 2) := by decide +kernel
theorem dX3_movePlaces_102 : decode cX3_movePlaces 102 = .ok (.aload_n 0, 1) := by decide +kernel
theorem dX3_movePlaces_103 : decode cX3_movePlaces 103 = .ok (.aload 4, 2) := by decide +kernel
theorem dX3_movePlaces_105 : decode cX3_movePlaces 105 = .ok (.getfield 231, 3) := by decide +kernel
theorem dX3_movePlaces_108 : decode cX3_movePlaces 108 = .ok (.invokevirtual 68, 3) := by decide +kernel
theorem dX3_movePlaces_111 : decode cX3_movePlaces 111 = .ok (.invokevirtual 192, 3) := by decide +kernel
theorem dX3_movePlaces_114 : decode cX3_movePlaces 114 = .ok (.aload_n 0, 1) := by decide +kernel
theorem dX3_movePlaces_115 : decode cX3_movePlaces 115 = .ok (.aload 4, 2) := by decide +kernel
theorem dX3_movePlaces_117 : decode cX3_movePlaces 117 = .ok (.aload_n 0, 1) := by decide +kernel
theorem dX3_movePlaces_118 : decode cX3_movePlaces 118 = .ok (.aload 4, 2) := by decide +kernel
theorem dX3_movePlaces_120 : decode cX3_movePlaces 120 = .ok (.getfield 307, 3) := by decide +kernel
theorem dX3_movePlaces_123 : decode cX3_movePlaces 123 = .ok (.invokevirtual 68, 3) := by decide +kernel
theorem dX3_movePlaces_126 : decode cX3_movePlaces 126 = .ok (.invokevirtual 186, 3) := by decide +kernel
theorem dX3_movePlaces_129 : decode cX3_movePlaces 129 = .ok (.iinc 2 1, 3) := by decide +kernel
theorem dX3_movePlaces_132 : decode cX3_movePlaces 132 = .ok (.iinc 3 1, 3) := by decide +kernel
theorem dX3_movePlaces_135 : decode cX3_movePlaces 135 = .ok (.goto (-61), 3) := by decide +kernel
theorem dX3_movePlaces_138 : decode cX3_movePlaces 138 = .ok (.iload_n 2, 1) := by decide +kernel
theorem dX3_movePlaces_139 : decode cX3_movePlaces 139 = .ok (.ireturn, 1) := by decide +kernel
theorem dJ6_bitCount_0f7a4_0 : decode cJ6_bitCount_0f7a4 0 = .ok (.iload_n 0, 1) := by decide +kernel
theorem dJ6_bitCount_0f7a4_1 : decode cJ6_bitCount_0f7a4 1 = .ok (.iload_n 0, 1) := by decide +kernel
theorem dJ6_bitCount_0f7a4_2 : decode cJ6_bitCount_0f7a4 2 = .ok (.iconst 1, 1) := by decide +kernel
theorem dJ6_bitCount_0f7a4_3 : decode cJ6_bitCount_0f7a4 3 = .ok (.iushr, 1) := by decide +kernel
theorem dJ6_bitCount_0f7a4_4 : decode cJ6_bitCount_0f7a4 4 = .ok (.ldc_w 265, 3) := by decide +kernel
theorem dJ6_bitCount_0f7a4_7 : decode cJ6_bitCount_0f7a4 7 = .ok (.iand, 1) := by decide +kernel
theorem dJ6_bitCount_0f7a4_8 : decode cJ6_bitCount_0f7a4 8 = .ok (.isub, 1) := by decide +kernel
theorem dJ6_bitCount_0f7a4_9 : decode cJ6_bitCount_0f7a4 9 = .ok (.istore_n 0, 1) := by decide +kernel
theorem dJ6_bitCount_0f7a4_10 : decode cJ6_bitCount_0f7a4 10 = .ok (.iload_n 0, 1) := by decide +kernel
theorem dJ6_bitCount_0f7a4_11 : decode cJ6_bitCount_0f7a4 11 = .ok (.ldc_w 266, 3) := by decide +kernel
theorem dJ6_bitCount_0f7a4_14 : decode cJ6_bitCount_0f7a4 14 = .ok (.iand, 1) := by decide +kernel
theorem dJ6_bitCount_0f7a4_15 : decode cJ6_bitCount_0f7a4 15 = .ok (.iload_n 0, 1) := by decide +kernel
theorem dJ6_bitCount_0f7a4_16 : decode cJ6_bitCount_0f7a4 16 = .ok (.iconst 2, 1) := by decide +kernel
theorem dJ6_bitCount_0f7a4_17 : decode cJ6_bitCount_0f7a4 17 = .ok (.iushr, 1) := by decide +kernel
theorem dJ6_bitCount_0f7a4_18 : decode cJ6_bitCount_0f7a4 18 = .ok (.ldc_w 266, 3) := by decide +kernel
theorem dJ6_bitCount_0f7a4_21 : decode cJ6_bitCount_0f7a4 21 = .ok (.iand, 1) := by decide +kernel
theorem dJ6_bitCount_0f7a4_22 : decode cJ6_bitCount_0f7a4 22 = .ok (.iadd, 1) := by decide +kernel
theorem dJ6_bitCount_0f7a4_23 : decode cJ6_bitCount_0f7a4 23 = .ok (.istore_n 0, 1) := by decide +kernel
theorem dJ6_bitCount_0f7a4_24 : decode cJ6_bitCount_0f7a4 24 = .ok (.iload_n 0, 1) := by decide +kernel
theorem dJ6_bitCount_0f7a4_25 : decode cJ6_bitCount_0f7a4 25 = .ok (.iload_n 0, 1) := by decide +kernel
theorem dJ6_bitCount_0f7a4_26 : decode cJ6_bitCount_0f7a4 26 = .ok (.iconst 4, 1) := by decide +kernel
theorem dJ6_bitCount_0f7a4_27 : decode cJ6_bitCount_0f7a4 27 = .ok (.iushr, 1) := by decide +kernel
theorem dJ6_bitCount_0f7a4_28 : decode cJ6_bitCount_0f7a4 28 = .ok (.iadd, 1) := by decide +kernel
theorem dJ6_bitCount_0f7a4_29 : decode cJ6_bitCount_0f7a4 29 = .ok (.ldc_w 267, 3) := by decide +kernel
theorem dJ6_bitCount_0f7a4_32 : decode cJ6_bitCount_0f7a4 32 = .ok (.iand, 1) := by decide +kernel
theorem dJ6_bitCount_0f7a4_33 : decode cJ6_bitCount_0f7a4 33 = .ok (.istore_n 0, 1) := by decide +kernel
theorem dJ6_bitCount_0f7a4_34 : decode cJ6_bitCount_0f7a4 34 = .ok (.iload_n 0, 1) := by decide +kernel
theorem dJ6_bitCount_0f7a4_35 : decode cJ6_bitCount_0f7a4 35 = .ok (.iload_n 0, 1) := by decide +kernel
theorem dJ6_bitCount_0f7a4_36 : decode cJ6_bitCount_0f7a4 36 = .ok (.bipush 8, 2) := by decide +kernel
theorem dJ6_bitCount_0f7a4_38 : decode cJ6_bitCount_0f7a4 38 = .ok (.iushr, 1) := by decide +kernel
theorem dJ6_bitCount_0f7a4_39 : decode cJ6_bitCount_0f7a4 39 = .ok (.iadd, 1) := by decide +kernel
theorem dJ6_bitCount_0f7a4_40 : decode cJ6_bitCount_0f7a4 40 = .ok (.istore_n 0, 1) := by decide +kernel
theorem dJ6_bitCount_0f7a4_41 : decode cJ6_bitCount_0f7a4 41 = .ok (.iload_n 0, 1) := by decide +kernel
theorem dJ6_bitCount_0f7a4_42 : decode cJ6_bitCount_0f7a4 42 = .ok (.iload_n 0, 1) := by decide +kernel
theorem dJ6_bitCount_0f7a4_43 : decode cJ6_bitCount_0f7a4 43 = .ok (.bipush 16, 2) := by decide +kernel
theorem dJ6_bitCount_0f7a4_45 : decode cJ6_bitCount_0f7a4 45 = .ok (.iushr, 1) := by decide +kernel
theorem dJ6_bitCount_0f7a4_46 : decode cJ6_bitCount_0f7a4 46 = .ok (.iadd, 1) := by decide +kernel
theorem dJ6_bitCount_0f7a4_47 : decode cJ6_bitCount_0f7a4 47 = .ok (.istore_n 0, 1) := by decide +kernel
theorem dJ6_bitCount_0f7a4_48 : decode cJ6_bitCount_0f7a4 48 = .ok (.iload_n 0, 1) := by decide +kernel
theorem dJ6_bitCount_0f7a4_49 : decode cJ6_bitCount_0f7a4 49 = .ok (.bipush 63, 2) := by decide +kernel
theorem dJ6_bitCount_0f7a4_51 : decode cJ6_bitCount_0f7a4 51 = .ok (.iand, 1) := by decide +kernel
theorem dJ6_bitCount_0f7a4_52 : decode cJ6_bitCount_0f7a4 52 = .ok (.ireturn, 1) := by decide +kernel
end
section
theorem dX4_init_0 : decode cX4_init 0 = .ok (.aload_n 0, 1) := by decide +kernel
theorem dX4_init_1 : decode cX4_init 1 = .ok (.invokespecial 1, 3) := by decide +kernel
theorem dX4_init_4 : decode cX4_init 4 = .ok (.aload_n 0, 1) := by decide +kernel
theorem dX4_init_5 : decode cX4_init 5 = .ok (.bipush 20, 2) := by decide +kernel
theorem dX4_init_7 : decode cX4_init 7 = .ok (.newarray .int, 2) := by decide +kernel
theorem dX4_init_9 : decode cX4_init 9 = .ok (.putfield 7, 3) := by decide +kernel
theorem dX4_init_12 : decode cX4_init 12 = .ok (.aload_n 0, 1) := by decide +kernel
theorem dX4_init_13 : decode cX4_init 13 = .ok (.bipush 20, 2) := by decide +kernel
theorem dX4_init_15 : decode cX4_init 15 = .ok (.newarray .int, 2) := by decide +kernel
theorem dX4_init_17 : decode cX4_init 17 = .ok (.putfield 13, 3) := by decide +kernel
theorem dX4_init_20 : decode cX4_init 20 = .ok (.aload_n 0, 1) := by decide +kernel
theorem dX4_init_21 : decode cX4_init 21 = .ok (.bipush 20, 2) := by decide +kernel
theorem dX4_init_23 : decode cX4_init 23 = .ok (.newarray .int, 2) := by decide +kernel
theorem dX4_init_25 : decode cX4_init 25 = .ok (.putfield 16, 3) := by decide +kernel
theorem dX4_init_28 : decode cX4_init 28 = .ok (.aload_n 0, 1) := by decide +kernel
theorem dX4_init_29 : decode cX4_init 29 = .ok (.bipush 20, 2) := by decide +kernel
theorem dX4_init_31 : decode cX4_init 31 = .ok (.newarray .int, 2) := by decide +kernel
theorem dX4_init_33 : decode cX4_init 33 = .ok (.putfield 19, 3) := by decide +kernel
theorem dX4_init_36 : decode cX4_init 36 = .ok (.aload_n 0, 1) := by decide +kernel
theorem dX4_init_37 : decode cX4_init 37 = .ok (.bipush 16, 2) := by decide +kernel
theorem dX4_init_39 : decode cX4_init 39 = .ok (.newarray .int, 2) := by decide +kernel
theorem dX4_init_41 : decode cX4_init 41 = .ok (.putfield 22, 3) := by decide +kernel
theorem dX4_init_44 : decode cX4_init 44 = .ok (.aload_n 0, 1) := by decide +kernel
theorem dX4_init_45 : decode cX4_init 45 = .ok (.bipush 16, 2) := by decide +kernel
theorem dX4_init_47 : decode cX4_init 47 = .ok (.newarray .int, 2) := by decide +kernel
theorem dX4_init_49 : decode cX4_init 49 = .ok (.putfield 25, 3) := by decide +kernel
theorem dX4_init_52 : decode cX4_init 52 = .ok (.aload_n 0, 1) := by decide +kernel
theorem dX4_init_53 : decode cX4_init 53 = .ok (.bipush 16, 2) := by decide +kernel
theorem dX4_init_55 : decode cX4_init 55 = .ok (.newarray .int, 2) := by decide +kernel
theorem dX4_init_57 : decode cX4_init 57 = .ok (.putfield 28, 3) := by decide +kernel
theorem dX4_init_60 : decode cX4_init 60 = .ok (.aload_n 0, 1) := by decide +kernel
theorem dX4_init_61 : decode cX4_init 61 = .ok (.bipush 16, 2) := by decide +kernel
theorem dX4_init_63 : decode cX4_init 63 = .ok (.newarray .int, 2) := by decide +kernel
theorem dX4_init_65 : decode cX4_init 65 = .ok (.putfield 31, 3) := by decide +kernel
theorem dX4_init_68 : decode cX4_init 68 = .ok (.aload_n 0, 1) := by decide +kernel
theorem dX4_init_69 : decode cX4_init 69 = .ok (.bipush 16, 2) := by decide +kernel
theorem dX4_init_71 : decode cX4_init 71 = .ok (.newarray .int, 2) := by decide +kernel
theorem dX4_init_73 : decode cX4_init 73 = .ok (.putfield 34, 3) := by decide +kernel
theorem dX4_init_76 : decode cX4_init 76 = .ok (.aload_n 0, 1) := by decide +kernel
theorem dX4_init_77 : decode cX4_init 77 = .ok (.bipush 96, 2) := by decide +kernel
theorem dX4_init_79 : decode cX4_init 79 = .ok (.newarray .int, 2) := by decide +kernel
theorem dX4_init_81 : decode cX4_init 81 = .ok (.putfield 37, 3) := by decide +kernel
theorem dX4_init_84 : decode cX4_init 84 = .ok (.aload_n 0, 1) := by decide +kernel
theorem dX4_init_85 : decode cX4_init 85 = .ok (.bipush 16, 2) := by decide +kernel
theorem dX4_init_87 : decode cX4_init 87 = .ok (.newarray .int, 2) := by decide +kernel
theorem dX4_init_89 : decode cX4_init 89 = .ok (.putfield 40, 3) := by decide +kernel
theorem dX4_init_92 : decode cX4_init 92 = .ok (.aload_n 0, 1) := by decide +kernel
theorem dX4_init_93 : decode cX4_init 93 = .ok (.bipush 16, 2) := by decide +kernel
theorem dX4_init_95 : decode cX4_init 95 = .ok (.newarray .int, 2) := by decide +kernel
theorem dX4_init_97 : decode cX4_init 97 = .ok (.putfield 43, 3) := by decide +kernel
theorem dX4_init_100 : decode cX4_init 100 = .ok (.aload_n 0, 1) := by decide +kernel
theorem dX4_init_101 : decode cX4_init 101 = .ok (.bipush 20, 2) := by decide +kernel
theorem dX4_init_103 : decode cX4_init 103 = .ok (.newarray .int, 2) := by decide +kernel
theorem dX4_init_105 : decode cX4_init 105 = .ok (.putfield 46, 3) := by decide +kernel
theorem dX4_init_108 : decode cX4_init 108 = .ok (.aload_n 0, 1) := by decide +kernel
theorem dX4_init_109 : decode cX4_init 109 = .ok (.sipush 320, 3) := by decide +kernel
theorem dX4_init_112 : decode cX4_init 112 = .ok (.newarray .int, 2) := by decide +kernel
theorem dX4_init_114 : decode cX4_init 114 = .ok (.putfield 49, 3) := by decide +kernel
theorem dX4_init_117 : decode cX4_init 117 = .ok (.aload_n 0, 1) := by decide +kernel
theorem dX4_init_118 : decode cX4_init 118 = .ok (.sipush 320, 3) := by decide +kernel
theorem dX4_init_121 : decode cX4_init 121 = .ok (.newarray .int, 2) := by decide +kernel
theorem dX4_init_123 : decode cX4_init 123 = .ok (.putfield 52, 3) := by decide +kernel
theorem dX4_init_126 : decode cX4_init 126 = .ok (.aload_n 0, 1) := by decide +kernel
theorem dX4_init_127 : decode cX4_init 127 = .ok (.bipush 20, 2) := by decide +kernel
theorem dX4_init_129 : decode cX4_init 129 = .ok (.newarray .int, 2) := by decide +kernel
theorem dX4_init_131 : decode cX4_init 131 = .ok (.putfield 55, 3) := by decide +kernel
theorem dX4_init_134 : decode cX4_init 134 = .ok (.aload_n 0, 1) := by decide +kernel
theorem dX4_init_135 : decode cX4_init 135 = .ok (.bipush 16, 2) := by decide +kernel
theorem dX4_init_137 : decode cX4_init 137 = .ok (.newarray .int, 2) := by decide +kernel
theorem dX4_init_139 : decode cX4_init 139 = .ok (.putfield 58, 3) := by decide +kernel
theorem dX4_init_142 : decode cX4_init 142 = .ok (.aload_n 0, 1) := by decide +kernel
theorem dX4_init_143 : decode cX4_init 143 = .ok (.bipush 16, 2) := by decide +kernel
theorem dX4_init_145 : decode cX4_init 145 = .ok (.newarray .int, 2) := by decide +kernel
theorem dX4_init_147 : decode cX4_init 147 = .ok (.putfield 61, 3) := by decide +kernel
theorem dX4_init_150 : decode cX4_init 150 = .ok (.aload_n 0, 1) := by decide +kernel
theorem dX4_init_151 : decode cX4_init 151 = .ok (.iconst 0, 1) := by decide +kernel
theorem dX4_init_152 : decode cX4_init 152 = .ok (.putfield 64, 3) := by decide +kernel
theorem dX4_init_155 : decode cX4_init 155 = .ok (.return_, 1) := by decide +kernel
theorem dX4_thrown_0 : decode cX4_thrown 0 = .ok (.aload_n 0, 1) := by decide +kernel
theorem dX4_thrown_1 : decode cX4_thrown 1 = .ok (.getfield 68, 3) := by decide +kernel
theorem dX4_thrown_4 : decode cX4_thrown 4 = .ok (.ireturn, 1) := by decide +kernel
theorem dX4_has_0 : decode cX4_has 0 = .ok (.iload_n 0, 1) := by decide +kernel
theorem dX4_has_1 : decode cX4_has 1 = .ok (.iload_n 1, 1) := by decide +kernel
theorem dX4_has_2 : decode cX4_has 2 = .ok (.ishr, 1) := by decide +kernel
theorem dX4_has_3 : decode cX4_has 3 = .ok (.iconst 1, 1) := by decide +kernel
theorem dX4_has_4 : decode cX4_has 4 = .ok (.iand, 1) := by decide +kernel
theorem dX4_has_5 : decode cX4_has 5 = .ok (.iconst 1, 1) := by decide +kernel
theorem dX4_has_6 : decode cX4_has 6 = .ok (.if_icmp .ne 7, 3) := by decide +kernel
theorem dX4_has_9 : decode cX4_has 9 = .ok (.iconst 1, 1) := by decide +kernel
theorem dX4_has_10 : decode cX4_has 10 = .ok (.goto 4, 3) := by decide +kernel
theorem dX4_has_13 : decode cX4_has 13 = .ok (.iconst 0, 1) := by decide +kernel
theorem dX4_has_14 : decode cX4_has 14 = .ok (.ireturn, 1) := by decide +kernel
theorem dX4_size_0 : decode cX4_size 0 = .ok (.iconst 0, 1) := by decide +kernel
theorem dX4_size_1 : decode cX4_size 1 = .ok (.istore_n 1, 1) := by decide +kernel
theorem dX4_size_2 : decode cX4_size 2 = .ok (.iconst 0, 1) := by decide +kernel
theorem dX4_size_3 : decode cX4_size 3 = .ok (.istore_n 2, 1) := by decide +kernel
theorem dX4_size_4 : decode cX4_size 4 = .ok (.iload_n 2, 1) := by decide +kernel
theorem dX4_size_5 : decode cX4_size 5 = .ok (.bipush 30, 2) := by decide +kernel
theorem dX4_size_7 : decode cX4_size 7 = .ok (.if_icmp .ge 17, 3) := by decide +kernel
theorem dX4_size_10 : decode cX4_size 10 = .ok (.iload_n 1, 1) := by decide +kernel
theorem dX4_size_11 : decode cX4_size 11 = .ok (.iload_n 0, 1) := by decide +kernel
theorem dX4_size_12 : decode cX4_size 12 = .ok (.iload_n 2, 1) := by decide +kernel
theorem dX4_size_13 : decode cX4_size 13 = .ok (.ishr, 1) := by decide +kernel
theorem dX4_size_14 : decode cX4_size 14 = .ok (.iconst 1, 1) := by decide +kernel
theorem dX4_size_15 : decode cX4_size 15 = .ok (.iand, 1) := by decide +kernel
theorem dX4_size_16 : decode cX4_size 16 = .ok (.iadd, 1) := by decide +kernel
theorem dX4_size_17 : decode cX4_size 17 = .ok (.istore_n 1, 1) := by decide +kernel
theorem dX4_size_18 : decode cX4_size 18 = .ok (.iinc 2 1, 3) := by decide +kernel
theorem dX4_size_21 : decode cX4_size 21 = .ok (.goto (-17), 3) := by decide +kernel
theorem dX4_size_24 : decode cX4_size 24 = .ok (.iload_n 1, 1) := by decide +kernel
theorem dX4_size_25 : decode cX4_size 25 = .ok (.ireturn, 1) := by decide +kernel
theorem dX4_isCourse_0 : decode cX4_isCourse 0 = .ok (.iload_n 1, 1) := by decide +kernel
theorem dX4_isCourse_1 : decode cX4_isCourse 1 = .ok (.ifCond .lt 15, 3) := by decide +kernel
theorem dX4_isCourse_4 : decode cX4_isCourse 4 = .ok (.iload_n 1, 1) := by decide +kernel
theorem dX4_isCourse_5 : decode cX4_isCourse 5 = .ok (.aload_n 0, 1) := by decide +kernel
theorem dX4_isCourse_6 : decode cX4_isCourse 6 = .ok (.getfield 71, 3) := by decide +kernel
theorem dX4_isCourse_9 : decode cX4_isCourse 9 = .ok (.if_icmp .ge 7, 3) := by decide +kernel
theorem dX4_isCourse_12 : decode cX4_isCourse 12 = .ok (.iconst 1, 1) := by decide +kernel
theorem dX4_isCourse_13 : decode cX4_isCourse 13 = .ok (.goto 4, 3) := by decide +kernel
theorem dX4_isCourse_16 : decode cX4_isCourse 16 = .ok (.iconst 0, 1) := by decide +kernel
theorem dX4_isCourse_17 : decode cX4_isCourse 17 = .ok (.ireturn, 1) := by decide +kernel
theorem dX4_isStudent_0 : decode cX4_isStudent 0 = .ok (.iload_n 1, 1) := by decide +kernel
theorem dX4_isStudent_1 : decode cX4_isStudent 1 = .ok (.ifCond .lt 15, 3) := by decide +kernel
theorem dX4_isStudent_4 : decode cX4_isStudent 4 = .ok (.iload_n 1, 1) := by decide +kernel
theorem dX4_isStudent_5 : decode cX4_isStudent 5 = .ok (.aload_n 0, 1) := by decide +kernel
theorem dX4_isStudent_6 : decode cX4_isStudent 6 = .ok (.getfield 74, 3) := by decide +kernel
theorem dX4_isStudent_9 : decode cX4_isStudent 9 = .ok (.if_icmp .ge 7, 3) := by decide +kernel
theorem dX4_isStudent_12 : decode cX4_isStudent 12 = .ok (.iconst 1, 1) := by decide +kernel
theorem dX4_isStudent_13 : decode cX4_isStudent 13 = .ok (.goto 4, 3) := by decide +kernel
theorem dX4_isStudent_16 : decode cX4_isStudent 16 = .ok (.iconst 0, 1) := by decide +kernel
theorem dX4_isStudent_17 : decode cX4_isStudent 17 = .ok (.ireturn, 1) := by decide +kernel
theorem dX4_areBoth_0 : decode cX4_areBoth 0 = .ok (.aload_n 0, 1) := by decide +kernel
theorem dX4_areBoth_1 : decode cX4_areBoth 1 = .ok (.aload_n 0, 1) := by decide +kernel
theorem dX4_areBoth_2 : decode cX4_areBoth 2 = .ok (.iload_n 1, 1) := by decide +kernel
theorem dX4_areBoth_3 : decode cX4_areBoth 3 = .ok (.invokevirtual 77, 3) := by decide +kernel
theorem dX4_areBoth_6 : decode cX4_areBoth 6 = .ok (.ifCond .eq 15, 3) := by decide +kernel
theorem dX4_areBoth_9 : decode cX4_areBoth 9 = .ok (.aload_n 0, 1) := by decide +kernel
theorem dX4_areBoth_10 : decode cX4_areBoth 10 = .ok (.iload_n 2, 1) := by decide +kernel
theorem dX4_areBoth_11 : decode cX4_areBoth 11 = .ok (.invokevirtual 81, 3) := by decide +kernel
theorem dX4_areBoth_14 : decode cX4_areBoth 14 = .ok (.ifCond .eq 7, 3) := by decide +kernel
theorem dX4_areBoth_17 : decode cX4_areBoth 17 = .ok (.iconst 0, 1) := by decide +kernel
theorem dX4_areBoth_18 : decode cX4_areBoth 18 = .ok (.goto 4, 3) := by decide +kernel
theorem dX4_areBoth_21 : decode cX4_areBoth 21 = .ok (.iconst 1, 1) := by decide +kernel
theorem dX4_areBoth_22 : decode cX4_areBoth 22 = .ok (.putfield 68, 3) := by decide +kernel
theorem dX4_areBoth_25 : decode cX4_areBoth 25 = .ok (.aload_n 0, 1) := by decide +kernel
theorem dX4_areBoth_26 : decode cX4_areBoth 26 = .ok (.getfield 68, 3) := by decide +kernel
theorem dX4_areBoth_29 : decode cX4_areBoth 29 = .ok (.ifCond .ne 7, 3) := by decide +kernel
theorem dX4_areBoth_32 : decode cX4_areBoth 32 = .ok (.iconst 1, 1) := by decide +kernel
theorem dX4_areBoth_33 : decode cX4_areBoth 33 = .ok (.goto 4, 3) := by decide +kernel
theorem dX4_areBoth_36 : decode cX4_areBoth 36 = .ok (.iconst 0, 1) := by decide +kernel
theorem dX4_areBoth_37 : decode cX4_areBoth 37 = .ok (.ireturn, 1) := by decide +kernel
theorem dX4_requiredBy_0 : decode cX4_requiredBy 0 = .ok (.aload_n 0, 1) := by decide +kernel
theorem dX4_requiredBy_1 : decode cX4_requiredBy 1 = .ok (.getfield 19, 3) := by decide +kernel
theorem dX4_requiredBy_4 : decode cX4_requiredBy 4 = .ok (.iload_n 1, 1) := by decide +kernel
theorem dX4_requiredBy_5 : decode cX4_requiredBy 5 = .ok (.iaload, 1) := by decide +kernel
theorem dX4_requiredBy_6 : decode cX4_requiredBy 6 = .ok (.istore_n 2, 1) := by decide +kernel
theorem dX4_requiredBy_7 : decode cX4_requiredBy 7 = .ok (.iconst 0, 1) := by decide +kernel
theorem dX4_requiredBy_8 : decode cX4_requiredBy 8 = .ok (.istore_n 3, 1) := by decide +kernel
theorem dX4_requiredBy_9 : decode cX4_requiredBy 9 = .ok (.iload_n 3, 1) := by decide +kernel
theorem dX4_requiredBy_10 : decode cX4_requiredBy 10 = .ok (.bipush 20, 2) := by decide +kernel
theorem dX4_requiredBy_12 : decode cX4_requiredBy 12 = .ok (.if_icmp .ge 50, 3) := by decide +kernel
theorem dX4_requiredBy_15 : decode cX4_requiredBy 15 = .ok (.iconst 0, 1) := by decide +kernel
theorem dX4_requiredBy_16 : decode cX4_requiredBy 16 = .ok (.istore 4, 2) := by decide +kernel
theorem dX4_requiredBy_18 : decode cX4_requiredBy 18 = .ok (.iload 4, 2) := by decide +kernel
theorem dX4_requiredBy_20 : decode cX4_requiredBy 20 = .ok (.aload_n 0, 1) := by decide +kernel
theorem dX4_requiredBy_21 : decode cX4_requiredBy 21 = .ok (.getfield 71, 3) := by decide +kernel
theorem dX4_requiredBy_24 : decode cX4_requiredBy 24 = .ok (.if_icmp .ge 32, 3) := by decide +kernel
theorem dX4_requiredBy_27 : decode cX4_requiredBy 27 = .ok (.iload_n 2, 1) := by decide +kernel
theorem dX4_requiredBy_28 : decode cX4_requiredBy 28 = .ok (.iload_n 2, 1) := by decide +kernel
theorem dX4_requiredBy_29 : decode cX4_requiredBy 29 = .ok (.iload 4, 2) := by decide +kernel
theorem dX4_requiredBy_31 : decode cX4_requiredBy 31 = .ok (.invokestatic 84, 3) := by decide +kernel
theorem dX4_requiredBy_34 : decode cX4_requiredBy 34 = .ok (.ifCond .eq 13, 3) := by decide +kernel
theorem dX4_requiredBy_37 : decode cX4_requiredBy 37 = .ok (.aload_n 0, 1) := by decide +kernel
theorem dX4_requiredBy_38 : decode cX4_requiredBy 38 = .ok (.getfield 19, 3) := by decide +kernel
theorem dX4_requiredBy_41 : decode cX4_requiredBy 41 = .ok (.iload 4, 2) := by decide +kernel
theorem dX4_requiredBy_43 : decode cX4_requiredBy 43 = .ok (.iaload, 1) := by decide +kernel
theorem dX4_requiredBy_44 : decode cX4_requiredBy 44 = .ok (.goto 4, 3) := by decide +kernel
theorem dX4_requiredBy_47 : decode cX4_requiredBy 47 = .ok (.iconst 0, 1) := by decide +kernel
theorem dX4_requiredBy_48 : decode cX4_requiredBy 48 = .ok (.ior, 1) := by decide +kernel
theorem dX4_requiredBy_49 : decode cX4_requiredBy 49 = .ok (.istore_n 2, 1) := by decide +kernel
theorem dX4_requiredBy_50 : decode cX4_requiredBy 50 = .ok (.iinc 4 1, 3) := by decide +kernel
theorem dX4_requiredBy_53 : decode cX4_requiredBy 53 = .ok (.goto (-35), 3) := by decide +kernel
theorem dX4_requiredBy_56 : decode cX4_requiredBy 56 = .ok (.iinc 3 1, 3) := by decide +kernel
theorem dX4_requiredBy_59 : decode cX4_requiredBy 59 = .ok (.goto (-50), 3) := by decide +kernel
theorem dX4_requiredBy_62 : decode cX4_requiredBy 62 = .ok (.iload_n 2, 1) := by decide +kernel
theorem dX4_requiredBy_63 : decode cX4_requiredBy 63 = .ok (.ireturn, 1) := by decide +kernel
theorem dX4_worthOf_0 : decode cX4_worthOf 0 = .ok (.iconst 0, 1) := by decide +kernel
theorem dX4_worthOf_1 : decode cX4_worthOf 1 = .ok (.istore_n 2, 1) := by decide +kernel
theorem dX4_worthOf_2 : decode cX4_worthOf 2 = .ok (.iconst 0, 1) := by decide +kernel
theorem dX4_worthOf_3 : decode cX4_worthOf 3 = .ok (.istore_n 3, 1) := by decide +kernel
theorem dX4_worthOf_4 : decode cX4_worthOf 4 = .ok (.iload_n 3, 1) := by decide +kernel
theorem dX4_worthOf_5 : decode cX4_worthOf 5 = .ok (.aload_n 0, 1) := by decide +kernel
theorem dX4_worthOf_6 : decode cX4_worthOf 6 = .ok (.getfield 71, 3) := by decide +kernel
theorem dX4_worthOf_9 : decode cX4_worthOf 9 = .ok (.if_icmp .ge 30, 3) := by decide +kernel
theorem dX4_worthOf_12 : decode cX4_worthOf 12 = .ok (.iload_n 2, 1) := by decide +kernel
theorem dX4_worthOf_13 : decode cX4_worthOf 13 = .ok (.iload_n 1, 1) := by decide +kernel
theorem dX4_worthOf_14 : decode cX4_worthOf 14 = .ok (.iload_n 3, 1) := by decide +kernel
theorem dX4_worthOf_15 : decode cX4_worthOf 15 = .ok (.invokestatic 84, 3) := by decide +kernel
theorem dX4_worthOf_18 : decode cX4_worthOf 18 = .ok (.ifCond .eq 12, 3) := by decide +kernel
theorem dX4_worthOf_21 : decode cX4_worthOf 21 = .ok (.aload_n 0, 1) := by decide +kernel
theorem dX4_worthOf_22 : decode cX4_worthOf 22 = .ok (.getfield 13, 3) := by decide +kernel
theorem dX4_worthOf_25 : decode cX4_worthOf 25 = .ok (.iload_n 3, 1) := by decide +kernel
theorem dX4_worthOf_26 : decode cX4_worthOf 26 = .ok (.iaload, 1) := by decide +kernel
theorem dX4_worthOf_27 : decode cX4_worthOf 27 = .ok (.goto 4, 3) := by decide +kernel
theorem dX4_worthOf_30 : decode cX4_worthOf 30 = .ok (.iconst 0, 1) := by decide +kernel
theorem dX4_worthOf_31 : decode cX4_worthOf 31 = .ok (.iadd, 1) := by decide +kernel
theorem dX4_worthOf_32 : decode cX4_worthOf 32 = .ok (.istore_n 2, 1) := by decide +kernel
theorem dX4_worthOf_33 : decode cX4_worthOf 33 = .ok (.iinc 3 1, 3) := by decide +kernel
theorem dX4_worthOf_36 : decode cX4_worthOf 36 = .ok (.goto (-32), 3) := by decide +kernel
theorem dX4_worthOf_39 : decode cX4_worthOf 39 = .ok (.iload_n 2, 1) := by decide +kernel
theorem dX4_worthOf_40 : decode cX4_worthOf 40 = .ok (.ireturn, 1) := by decide +kernel
theorem dX4_obstacleWith_0 : decode cX4_obstacleWith 0 = .ok (.aload_n 0, 1) := by decide +kernel
theorem dX4_obstacleWith_1 : decode cX4_obstacleWith 1 = .ok (.getfield 28, 3) := by decide +kernel
theorem dX4_obstacleWith_4 : decode cX4_obstacleWith 4 = .ok (.iload_n 1, 1) := by decide +kernel
theorem dX4_obstacleWith_5 : decode cX4_obstacleWith 5 = .ok (.iaload, 1) := by decide +kernel
theorem dX4_obstacleWith_6 : decode cX4_obstacleWith 6 = .ok (.iload_n 2, 1) := by decide +kernel
theorem dX4_obstacleWith_7 : decode cX4_obstacleWith 7 = .ok (.invokestatic 84, 3) := by decide +kernel
theorem dX4_obstacleWith_10 : decode cX4_obstacleWith 10 = .ok (.ifCond .eq 5, 3) := by decide +kernel
theorem dX4_obstacleWith_13 : decode cX4_obstacleWith 13 = .ok (.iconst 1, 1) := by decide +kernel
theorem dX4_obstacleWith_14 : decode cX4_obstacleWith 14 = .ok (.ireturn, 1) := by decide +kernel
theorem dX4_obstacleWith_15 : decode cX4_obstacleWith 15 = .ok (.iload_n 3, 1) := by decide +kernel
theorem dX4_obstacleWith_16 : decode cX4_obstacleWith 16 = .ok (.iload_n 2, 1) := by decide +kernel
theorem dX4_obstacleWith_17 : decode cX4_obstacleWith 17 = .ok (.invokestatic 84, 3) := by decide +kernel
theorem dX4_obstacleWith_20 : decode cX4_obstacleWith 20 = .ok (.ifCond .eq 5, 3) := by decide +kernel
theorem dX4_obstacleWith_23 : decode cX4_obstacleWith 23 = .ok (.iconst 2, 1) := by decide +kernel
theorem dX4_obstacleWith_24 : decode cX4_obstacleWith 24 = .ok (.ireturn, 1) := by decide +kernel
theorem dX4_obstacleWith_25 : decode cX4_obstacleWith 25 = .ok (.aload_n 0, 1) := by decide +kernel
theorem dX4_obstacleWith_26 : decode cX4_obstacleWith 26 = .ok (.iload_n 2, 1) := by decide +kernel
theorem dX4_obstacleWith_27 : decode cX4_obstacleWith 27 = .ok (.invokevirtual 88, 3) := by decide +kernel
theorem dX4_obstacleWith_30 : decode cX4_obstacleWith 30 = .ok (.aload_n 0, 1) := by decide +kernel
theorem dX4_obstacleWith_31 : decode cX4_obstacleWith 31 = .ok (.getfield 28, 3) := by decide +kernel
theorem dX4_obstacleWith_34 : decode cX4_obstacleWith 34 = .ok (.iload_n 1, 1) := by decide +kernel
theorem dX4_obstacleWith_35 : decode cX4_obstacleWith 35 = .ok (.iaload, 1) := by decide +kernel
theorem dX4_obstacleWith_36 : decode cX4_obstacleWith 36 = .ok (.iconst (-1), 1) := by decide +kernel
theorem dX4_obstacleWith_37 : decode cX4_obstacleWith 37 = .ok (.ixor, 1) := by decide +kernel
theorem dX4_obstacleWith_38 : decode cX4_obstacleWith 38 = .ok (.iand, 1) := by decide +kernel
theorem dX4_obstacleWith_39 : decode cX4_obstacleWith 39 = .ok (.ifCond .eq 5, 3) := by decide +kernel
theorem dX4_obstacleWith_42 : decode cX4_obstacleWith 42 = .ok (.iconst 3, 1) := by decide +kernel
theorem dX4_obstacleWith_43 : decode cX4_obstacleWith 43 = .ok (.ireturn, 1) := by decide +kernel
theorem dX4_obstacleWith_44 : decode cX4_obstacleWith 44 = .ok (.aload_n 0, 1) := by decide +kernel
theorem dX4_obstacleWith_45 : decode cX4_obstacleWith 45 = .ok (.iload_n 3, 1) := by decide +kernel
theorem dX4_obstacleWith_46 : decode cX4_obstacleWith 46 = .ok (.invokevirtual 92, 3) := by decide +kernel
theorem dX4_obstacleWith_49 : decode cX4_obstacleWith 49 = .ok (.aload_n 0, 1) := by decide +kernel
theorem dX4_obstacleWith_50 : decode cX4_obstacleWith 50 = .ok (.getfield 13, 3) := by decide +kernel
theorem dX4_obstacleWith_53 : decode cX4_obstacleWith 53 = .ok (.iload_n 2, 1) := by decide +kernel
theorem dX4_obstacleWith_54 : decode cX4_obstacleWith 54 = .ok (.iaload, 1) := by decide +kernel
theorem dX4_obstacleWith_55 : decode cX4_obstacleWith 55 = .ok (.iadd, 1) := by decide +kernel
theorem dX4_obstacleWith_56 : decode cX4_obstacleWith 56 = .ok (.aload_n 0, 1) := by decide +kernel
theorem dX4_obstacleWith_57 : decode cX4_obstacleWith 57 = .ok (.getfield 25, 3) := by decide +kernel
theorem dX4_obstacleWith_60 : decode cX4_obstacleWith 60 = .ok (.iload_n 1, 1) := by decide +kernel
theorem dX4_obstacleWith_61 : decode cX4_obstacleWith 61 = .ok (.iaload, 1) := by decide +kernel
theorem dX4_obstacleWith_62 : decode cX4_obstacleWith 62 = .ok (.if_icmp .le 5, 3) := by decide +kernel
theorem dX4_obstacleWith_65 : decode cX4_obstacleWith 65 = .ok (.iconst 4, 1) := by decide +kernel
theorem dX4_obstacleWith_66 : decode cX4_obstacleWith 66 = .ok (.ireturn, 1) := by decide +kernel
theorem dX4_obstacleWith_67 : decode cX4_obstacleWith 67 = .ok (.iconst 0, 1) := by decide +kernel
theorem dX4_obstacleWith_68 : decode cX4_obstacleWith 68 = .ok (.istore 4, 2) := by decide +kernel
theorem dX4_obstacleWith_70 : decode cX4_obstacleWith 70 = .ok (.iload 4, 2) := by decide +kernel
theorem dX4_obstacleWith_72 : decode cX4_obstacleWith 72 = .ok (.aload_n 0, 1) := by decide +kernel
theorem dX4_obstacleWith_73 : decode cX4_obstacleWith 73 = .ok (.getfield 71, 3) := by decide +kernel
theorem dX4_obstacleWith_76 : decode cX4_obstacleWith 76 = .ok (.if_icmp .ge 37, 3) := by decide +kernel
theorem dX4_obstacleWith_79 : decode cX4_obstacleWith 79 = .ok (.iload_n 3, 1) := by decide +kernel
theorem dX4_obstacleWith_80 : decode cX4_obstacleWith 80 = .ok (.iload 4, 2) := by decide +kernel
theorem dX4_obstacleWith_82 : decode cX4_obstacleWith 82 = .ok (.invokestatic 84, 3) := by decide +kernel
theorem dX4_obstacleWith_85 : decode cX4_obstacleWith 85 = .ok (.ifCond .eq 22, 3) := by decide +kernel
theorem dX4_obstacleWith_88 : decode cX4_obstacleWith 88 = .ok (.aload_n 0, 1) := by decide +kernel
theorem dX4_obstacleWith_89 : decode cX4_obstacleWith 89 = .ok (.getfield 16, 3) := by decide +kernel
theorem dX4_obstacleWith_92 : decode cX4_obstacleWith 92 = .ok (.iload 4, 2) := by decide +kernel
theorem dX4_obstacleWith_94 : decode cX4_obstacleWith 94 = .ok (.iaload, 1) := by decide +kernel
theorem dX4_obstacleWith_95 : decode cX4_obstacleWith 95 = .ok (.aload_n 0, 1) := by decide +kernel
theorem dX4_obstacleWith_96 : decode cX4_obstacleWith 96 = .ok (.getfield 16, 3) := by decide +kernel
theorem dX4_obstacleWith_99 : decode cX4_obstacleWith 99 = .ok (.iload_n 2, 1) := by decide +kernel
theorem dX4_obstacleWith_100 : decode cX4_obstacleWith 100 = .ok (.iaload, 1) := by decide +kernel
theorem dX4_obstacleWith_101 : decode cX4_obstacleWith 101 = .ok (.iand, 1) := by decide +kernel
theorem dX4_obstacleWith_102 : decode cX4_obstacleWith 102 = .ok (.ifCond .eq 5, 3) := by decide +kernel
theorem dX4_obstacleWith_105 : decode cX4_obstacleWith 105 = .ok (.iconst 5, 1) := by decide +kernel
theorem dX4_obstacleWith_106 : decode cX4_obstacleWith 106 = .ok (.ireturn, 1) := by decide +kernel
theorem dX4_obstacleWith_107 : decode cX4_obstacleWith 107 = .ok (.iinc 4 1, 3) := by decide +kernel
theorem dX4_obstacleWith_110 : decode cX4_obstacleWith 110 = .ok (.goto (-40), 3) := by decide +kernel
theorem dX4_obstacleWith_113 : decode cX4_obstacleWith 113 = .ok (.iconst 0, 1) := by decide +kernel
theorem dX4_obstacleWith_114 : decode cX4_obstacleWith 114 = .ok (.ireturn, 1) := by decide +kernel
theorem dX4_inCourse_0 : decode cX4_inCourse 0 = .ok (.iconst 0, 1) := by decide +kernel
theorem dX4_inCourse_1 : decode cX4_inCourse 1 = .ok (.istore_n 2, 1) := by decide +kernel
theorem dX4_inCourse_2 : decode cX4_inCourse 2 = .ok (.iconst 0, 1) := by decide +kernel
theorem dX4_inCourse_3 : decode cX4_inCourse 3 = .ok (.istore_n 3, 1) := by decide +kernel
theorem dX4_inCourse_4 : decode cX4_inCourse 4 = .ok (.iload_n 3, 1) := by decide +kernel
theorem dX4_inCourse_5 : decode cX4_inCourse 5 = .ok (.aload_n 0, 1) := by decide +kernel
theorem dX4_inCourse_6 : decode cX4_inCourse 6 = .ok (.getfield 74, 3) := by decide +kernel
theorem dX4_inCourse_9 : decode cX4_inCourse 9 = .ok (.if_icmp .ge 30, 3) := by decide +kernel
theorem dX4_inCourse_12 : decode cX4_inCourse 12 = .ok (.iload_n 2, 1) := by decide +kernel
theorem dX4_inCourse_13 : decode cX4_inCourse 13 = .ok (.aload_n 0, 1) := by decide +kernel
theorem dX4_inCourse_14 : decode cX4_inCourse 14 = .ok (.getfield 31, 3) := by decide +kernel
theorem dX4_inCourse_17 : decode cX4_inCourse 17 = .ok (.iload_n 3, 1) := by decide +kernel
theorem dX4_inCourse_18 : decode cX4_inCourse 18 = .ok (.iaload, 1) := by decide +kernel
theorem dX4_inCourse_19 : decode cX4_inCourse 19 = .ok (.iload_n 1, 1) := by decide +kernel
theorem dX4_inCourse_20 : decode cX4_inCourse 20 = .ok (.invokestatic 84, 3) := by decide +kernel
theorem dX4_inCourse_23 : decode cX4_inCourse 23 = .ok (.ifCond .eq 7, 3) := by decide +kernel
theorem dX4_inCourse_26 : decode cX4_inCourse 26 = .ok (.iconst 1, 1) := by decide +kernel
theorem dX4_inCourse_27 : decode cX4_inCourse 27 = .ok (.goto 4, 3) := by decide +kernel
theorem dX4_inCourse_30 : decode cX4_inCourse 30 = .ok (.iconst 0, 1) := by decide +kernel
theorem dX4_inCourse_31 : decode cX4_inCourse 31 = .ok (.iadd, 1) := by decide +kernel
theorem dX4_inCourse_32 : decode cX4_inCourse 32 = .ok (.istore_n 2, 1) := by decide +kernel
theorem dX4_inCourse_33 : decode cX4_inCourse 33 = .ok (.iinc 3 1, 3) := by decide +kernel
theorem dX4_inCourse_36 : decode cX4_inCourse 36 = .ok (.goto (-32), 3) := by decide +kernel
theorem dX4_inCourse_39 : decode cX4_inCourse 39 = .ok (.iload_n 2, 1) := by decide +kernel
theorem dX4_inCourse_40 : decode cX4_inCourse 40 = .ok (.ireturn, 1) := by decide +kernel
theorem dX4_hasOffer_0 : decode cX4_hasOffer 0 = .ok (.aload_n 0, 1) := by decide +kernel
theorem dX4_hasOffer_1 : decode cX4_hasOffer 1 = .ok (.getfield 52, 3) := by decide +kernel
theorem dX4_hasOffer_4 : decode cX4_hasOffer 4 = .ok (.bipush 16, 2) := by decide +kernel
theorem dX4_hasOffer_6 : decode cX4_hasOffer 6 = .ok (.iload_n 2, 1) := by decide +kernel
theorem dX4_hasOffer_7 : decode cX4_hasOffer 7 = .ok (.imul, 1) := by decide +kernel
theorem dX4_hasOffer_8 : decode cX4_hasOffer 8 = .ok (.iload_n 1, 1) := by decide +kernel
theorem dX4_hasOffer_9 : decode cX4_hasOffer 9 = .ok (.iadd, 1) := by decide +kernel
theorem dX4_hasOffer_10 : decode cX4_hasOffer 10 = .ok (.iaload, 1) := by decide +kernel
theorem dX4_hasOffer_11 : decode cX4_hasOffer 11 = .ok (.ifCond .lt 7, 3) := by decide +kernel
theorem dX4_hasOffer_14 : decode cX4_hasOffer 14 = .ok (.iconst 1, 1) := by decide +kernel
theorem dX4_hasOffer_15 : decode cX4_hasOffer 15 = .ok (.goto 4, 3) := by decide +kernel
theorem dX4_hasOffer_18 : decode cX4_hasOffer 18 = .ok (.iconst 0, 1) := by decide +kernel
theorem dX4_hasOffer_19 : decode cX4_hasOffer 19 = .ok (.ireturn, 1) := by decide +kernel
theorem dX4_free_0 : decode cX4_free 0 = .ok (.aload_n 0, 1) := by decide +kernel
theorem dX4_free_1 : decode cX4_free 1 = .ok (.getfield 7, 3) := by decide +kernel
theorem dX4_free_4 : decode cX4_free 4 = .ok (.iload_n 1, 1) := by decide +kernel
theorem dX4_free_5 : decode cX4_free 5 = .ok (.iaload, 1) := by decide +kernel
theorem dX4_free_6 : decode cX4_free 6 = .ok (.aload_n 0, 1) := by decide +kernel
theorem dX4_free_7 : decode cX4_free 7 = .ok (.iload_n 1, 1) := by decide +kernel
theorem dX4_free_8 : decode cX4_free 8 = .ok (.invokevirtual 95, 3) := by decide +kernel
theorem dX4_free_11 : decode cX4_free 11 = .ok (.isub, 1) := by decide +kernel
theorem dX4_free_12 : decode cX4_free 12 = .ok (.istore_n 2, 1) := by decide +kernel
theorem dX4_free_13 : decode cX4_free 13 = .ok (.iconst 0, 1) := by decide +kernel
theorem dX4_free_14 : decode cX4_free 14 = .ok (.istore_n 3, 1) := by decide +kernel
theorem dX4_free_15 : decode cX4_free 15 = .ok (.iload_n 3, 1) := by decide +kernel
theorem dX4_free_16 : decode cX4_free 16 = .ok (.aload_n 0, 1) := by decide +kernel
theorem dX4_free_17 : decode cX4_free 17 = .ok (.getfield 74, 3) := by decide +kernel
theorem dX4_free_20 : decode cX4_free 20 = .ok (.if_icmp .ge 26, 3) := by decide +kernel
theorem dX4_free_23 : decode cX4_free 23 = .ok (.iload_n 2, 1) := by decide +kernel
theorem dX4_free_24 : decode cX4_free 24 = .ok (.aload_n 0, 1) := by decide +kernel
theorem dX4_free_25 : decode cX4_free 25 = .ok (.iload_n 3, 1) := by decide +kernel
theorem dX4_free_26 : decode cX4_free 26 = .ok (.iload_n 1, 1) := by decide +kernel
theorem dX4_free_27 : decode cX4_free 27 = .ok (.invokevirtual 98, 3) := by decide +kernel
theorem dX4_free_30 : decode cX4_free 30 = .ok (.ifCond .eq 7, 3) := by decide +kernel
theorem dX4_free_33 : decode cX4_free 33 = .ok (.iconst 1, 1) := by decide +kernel
theorem dX4_free_34 : decode cX4_free 34 = .ok (.goto 4, 3) := by decide +kernel
theorem dX4_free_37 : decode cX4_free 37 = .ok (.iconst 0, 1) := by decide +kernel
theorem dX4_free_38 : decode cX4_free 38 = .ok (.isub, 1) := by decide +kernel
theorem dX4_free_39 : decode cX4_free 39 = .ok (.istore_n 2, 1) := by decide +kernel
theorem dX4_free_40 : decode cX4_free 40 = .ok (.iinc 3 1, 3) := by decide +kernel
theorem dX4_free_43 : decode cX4_free 43 = .ok (.goto (-28), 3) := by decide +kernel
theorem dX4_free_46 : decode cX4_free 46 = .ok (.iload_n 2, 1) := by decide +kernel
theorem dX4_free_47 : decode cX4_free 47 = .ok (.ireturn, 1) := by decide +kernel
theorem dX4_waitPlace_0 : decode cX4_waitPlace 0 = .ok (.iconst 0, 1) := by decide +kernel
theorem dX4_waitPlace_1 : decode cX4_waitPlace 1 = .ok (.istore_n 3, 1) := by decide +kernel
theorem dX4_waitPlace_2 : decode cX4_waitPlace 2 = .ok (.iload_n 3, 1) := by decide +kernel
theorem dX4_waitPlace_3 : decode cX4_waitPlace 3 = .ok (.aload_n 0, 1) := by decide +kernel
theorem dX4_waitPlace_4 : decode cX4_waitPlace 4 = .ok (.getfield 46, 3) := by decide +kernel
theorem dX4_waitPlace_7 : decode cX4_waitPlace 7 = .ok (.iload_n 2, 1) := by decide +kernel
theorem dX4_waitPlace_8 : decode cX4_waitPlace 8 = .ok (.iaload, 1) := by decide +kernel
theorem dX4_waitPlace_9 : decode cX4_waitPlace 9 = .ok (.if_icmp .ge 26, 3) := by decide +kernel
theorem dX4_waitPlace_12 : decode cX4_waitPlace 12 = .ok (.aload_n 0, 1) := by decide +kernel
theorem dX4_waitPlace_13 : decode cX4_waitPlace 13 = .ok (.getfield 49, 3) := by decide +kernel
theorem dX4_waitPlace_16 : decode cX4_waitPlace 16 = .ok (.bipush 16, 2) := by decide +kernel
theorem dX4_waitPlace_18 : decode cX4_waitPlace 18 = .ok (.iload_n 2, 1) := by decide +kernel
theorem dX4_waitPlace_19 : decode cX4_waitPlace 19 = .ok (.imul, 1) := by decide +kernel
theorem dX4_waitPlace_20 : decode cX4_waitPlace 20 = .ok (.iload_n 3, 1) := by decide +kernel
theorem dX4_waitPlace_21 : decode cX4_waitPlace 21 = .ok (.iadd, 1) := by decide +kernel
theorem dX4_waitPlace_22 : decode cX4_waitPlace 22 = .ok (.iaload, 1) := by decide +kernel
theorem dX4_waitPlace_23 : decode cX4_waitPlace 23 = .ok (.iload_n 1, 1) := by decide +kernel
theorem dX4_waitPlace_24 : decode cX4_waitPlace 24 = .ok (.if_icmp .ne 5, 3) := by decide +kernel
theorem dX4_waitPlace_27 : decode cX4_waitPlace 27 = .ok (.iload_n 3, 1) := by decide +kernel
theorem dX4_waitPlace_28 : decode cX4_waitPlace 28 = .ok (.ireturn, 1) := by decide +kernel
theorem dX4_waitPlace_29 : decode cX4_waitPlace 29 = .ok (.iinc 3 1, 3) := by decide +kernel
theorem dX4_waitPlace_32 : decode cX4_waitPlace 32 = .ok (.goto (-30), 3) := by decide +kernel
theorem dX4_waitPlace_35 : decode cX4_waitPlace 35 = .ok (.iconst (-1), 1) := by decide +kernel
theorem dX4_waitPlace_36 : decode cX4_waitPlace 36 = .ok (.ireturn, 1) := by decide +kernel
theorem dX4_wishPlace_0 : decode cX4_wishPlace 0 = .ok (.iconst 0, 1) := by decide +kernel
theorem dX4_wishPlace_1 : decode cX4_wishPlace 1 = .ok (.istore_n 3, 1) := by decide +kernel
theorem dX4_wishPlace_2 : decode cX4_wishPlace 2 = .ok (.iload_n 3, 1) := by decide +kernel
theorem dX4_wishPlace_3 : decode cX4_wishPlace 3 = .ok (.aload_n 0, 1) := by decide +kernel
theorem dX4_wishPlace_4 : decode cX4_wishPlace 4 = .ok (.getfield 34, 3) := by decide +kernel
theorem dX4_wishPlace_7 : decode cX4_wishPlace 7 = .ok (.iload_n 1, 1) := by decide +kernel
theorem dX4_wishPlace_8 : decode cX4_wishPlace 8 = .ok (.iaload, 1) := by decide +kernel
theorem dX4_wishPlace_9 : decode cX4_wishPlace 9 = .ok (.if_icmp .ge 26, 3) := by decide +kernel
theorem dX4_wishPlace_12 : decode cX4_wishPlace 12 = .ok (.aload_n 0, 1) := by decide +kernel
theorem dX4_wishPlace_13 : decode cX4_wishPlace 13 = .ok (.getfield 37, 3) := by decide +kernel
theorem dX4_wishPlace_16 : decode cX4_wishPlace 16 = .ok (.bipush 6, 2) := by decide +kernel
theorem dX4_wishPlace_18 : decode cX4_wishPlace 18 = .ok (.iload_n 1, 1) := by decide +kernel
theorem dX4_wishPlace_19 : decode cX4_wishPlace 19 = .ok (.imul, 1) := by decide +kernel
theorem dX4_wishPlace_20 : decode cX4_wishPlace 20 = .ok (.iload_n 3, 1) := by decide +kernel
theorem dX4_wishPlace_21 : decode cX4_wishPlace 21 = .ok (.iadd, 1) := by decide +kernel
theorem dX4_wishPlace_22 : decode cX4_wishPlace 22 = .ok (.iaload, 1) := by decide +kernel
theorem dX4_wishPlace_23 : decode cX4_wishPlace 23 = .ok (.iload_n 2, 1) := by decide +kernel
theorem dX4_wishPlace_24 : decode cX4_wishPlace 24 = .ok (.if_icmp .ne 5, 3) := by decide +kernel
theorem dX4_wishPlace_27 : decode cX4_wishPlace 27 = .ok (.iload_n 3, 1) := by decide +kernel
theorem dX4_wishPlace_28 : decode cX4_wishPlace 28 = .ok (.ireturn, 1) := by decide +kernel
theorem dX4_wishPlace_29 : decode cX4_wishPlace 29 = .ok (.iinc 3 1, 3) := by decide +kernel
theorem dX4_wishPlace_32 : decode cX4_wishPlace 32 = .ok (.goto (-30), 3) := by decide +kernel
theorem dX4_wishPlace_35 : decode cX4_wishPlace 35 = .ok (.iconst (-1), 1) := by decide +kernel
theorem dX4_wishPlace_36 : decode cX4_wishPlace 36 = .ok (.ireturn, 1) := by decide +kernel
theorem dX4_leavesList_0 : decode cX4_leavesList 0 = .ok (.aload_n 0, 1) := by decide +kernel
theorem dX4_leavesList_1 : decode cX4_leavesList 1 = .ok (.iload_n 1, 1) := by decide +kernel
theorem dX4_leavesList_2 : decode cX4_leavesList 2 = .ok (.iload_n 2, 1) := by decide +kernel
theorem dX4_leavesList_3 : decode cX4_leavesList 3 = .ok (.invokevirtual 101, 3) := by decide +kernel
theorem dX4_leavesList_6 : decode cX4_leavesList 6 = .ok (.istore_n 3, 1) := by decide +kernel
theorem dX4_leavesList_7 : decode cX4_leavesList 7 = .ok (.iload_n 3, 1) := by decide +kernel
theorem dX4_leavesList_8 : decode cX4_leavesList 8 = .ok (.ifCond .ge 4, 3) := by decide +kernel
theorem dX4_leavesList_11 : decode cX4_leavesList 11 = .ok (.return_, 1) := by decide +kernel
theorem dX4_leavesList_12 : decode cX4_leavesList 12 = .ok (.iload_n 3, 1) := by decide +kernel
theorem dX4_leavesList_13 : decode cX4_leavesList 13 = .ok (.istore 4, 2) := by decide +kernel
theorem dX4_leavesList_15 : decode cX4_leavesList 15 = .ok (.iload 4, 2) := by decide +kernel
theorem dX4_leavesList_17 : decode cX4_leavesList 17 = .ok (.iconst 1, 1) := by decide +kernel
theorem dX4_leavesList_18 : decode cX4_leavesList 18 = .ok (.iadd, 1) := by decide +kernel
theorem dX4_leavesList_19 : decode cX4_leavesList 19 = .ok (.aload_n 0, 1) := by decide +kernel
theorem dX4_leavesList_20 : decode cX4_leavesList 20 = .ok (.getfield 46, 3) := by decide +kernel
theorem dX4_leavesList_23 : decode cX4_leavesList 23 = .ok (.iload_n 2, 1) := by decide +kernel
theorem dX4_leavesList_24 : decode cX4_leavesList 24 = .ok (.iaload, 1) := by decide +kernel
theorem dX4_leavesList_25 : decode cX4_leavesList 25 = .ok (.if_icmp .ge 35, 3) := by decide +kernel
theorem dX4_leavesList_28 : decode cX4_leavesList 28 = .ok (.aload_n 0, 1) := by decide +kernel
theorem dX4_leavesList_29 : decode cX4_leavesList 29 = .ok (.getfield 49, 3) := by decide +kernel
theorem dX4_leavesList_32 : decode cX4_leavesList 32 = .ok (.bipush 16, 2) := by decide +kernel
theorem dX4_leavesList_34 : decode cX4_leavesList 34 = .ok (.iload_n 2, 1) := by decide +kernel
theorem dX4_leavesList_35 : decode cX4_leavesList 35 = .ok (.imul, 1) := by decide +kernel
theorem dX4_leavesList_36 : decode cX4_leavesList 36 = .ok (.iload 4, 2) := by decide +kernel
theorem dX4_leavesList_38 : decode cX4_leavesList 38 = .ok (.iadd, 1) := by decide +kernel
theorem dX4_leavesList_39 : decode cX4_leavesList 39 = .ok (.aload_n 0, 1) := by decide +kernel
theorem dX4_leavesList_40 : decode cX4_leavesList 40 = .ok (.getfield 49, 3) := by decide +kernel
theorem dX4_leavesList_43 : decode cX4_leavesList 43 = .ok (.bipush 16, 2) := by decide +kernel
theorem dX4_leavesList_45 : decode cX4_leavesList 45 = .ok (.iload_n 2, 1) := by decide +kernel
theorem dX4_leavesList_46 : decode cX4_leavesList 46 = .ok (.imul, 1) := by decide +kernel
theorem dX4_leavesList_47 : decode cX4_leavesList 47 = .ok (.iload 4, 2) := by decide +kernel
theorem dX4_leavesList_49 : decode cX4_leavesList 49 = .ok (.iadd, 1) := by decide +kernel
theorem dX4_leavesList_50 : decode cX4_leavesList 50 = .ok (.iconst 1, 1) := by decide +kernel
theorem dX4_leavesList_51 : decode cX4_leavesList 51 = .ok (.iadd, 1) := by decide +kernel
theorem dX4_leavesList_52 : decode cX4_leavesList 52 = .ok (.iaload, 1) := by decide +kernel
theorem dX4_leavesList_53 : decode cX4_leavesList 53 = .ok (.iastore, 1) := by decide +kernel
theorem dX4_leavesList_54 : decode cX4_leavesList 54 = .ok (.iinc 4 1, 3) := by decide +kernel
theorem dX4_leavesList_57 : decode cX4_leavesList 57 = .ok (.goto (-42), 3) := by decide +kernel
theorem dX4_leavesList_60 : decode cX4_leavesList 60 = .ok (.aload_n 0, 1) := by decide +kernel
theorem dX4_leavesList_61 : decode cX4_leavesList 61 = .ok (.getfield 46, 3) := by decide +kernel
theorem dX4_leavesList_64 : decode cX4_leavesList 64 = .ok (.iload_n 2, 1) := by decide +kernel
theorem dX4_leavesList_65 : decode cX4_leavesList 65 = .ok (.dup2, 1) := by decide +kernel
theorem dX4_leavesList_66 : decode cX4_leavesList 66 = .ok (.iaload, 1) := by decide +kernel
theorem dX4_leavesList_67 : decode cX4_leavesList 67 = .ok (.iconst 1, 1) := by decide +kernel
theorem dX4_leavesList_68 : decode cX4_leavesList 68 = .ok (.isub, 1) := by decide +kernel
theorem dX4_leavesList_69 : decode cX4_leavesList 69 = .ok (.iastore, 1) := by decide +kernel
theorem dX4_leavesList_70 : decode cX4_leavesList 70 = .ok (.aload_n 0, 1) := by decide +kernel
theorem dX4_leavesList_71 : decode cX4_leavesList 71 = .ok (.getfield 52, 3) := by decide +kernel
theorem dX4_leavesList_74 : decode cX4_leavesList 74 = .ok (.bipush 16, 2) := by decide +kernel
theorem dX4_leavesList_76 : decode cX4_leavesList 76 = .ok (.iload_n 2, 1) := by decide +kernel
theorem dX4_leavesList_77 : decode cX4_leavesList 77 = .ok (.imul, 1) := by decide +kernel
theorem dX4_leavesList_78 : decode cX4_leavesList 78 = .ok (.iload_n 1, 1) := by decide +kernel
theorem dX4_leavesList_79 : decode cX4_leavesList 79 = .ok (.iadd, 1) := by decide +kernel
theorem dX4_leavesList_80 : decode cX4_leavesList 80 = .ok (.iconst (-1), 1) := by decide +kernel
theorem dX4_leavesList_81 : decode cX4_leavesList 81 = .ok (.iastore, 1) := by decide +kernel
theorem dX4_leavesList_82 : decode cX4_leavesList 82 = .ok (.return_, 1) := by decide +kernel
theorem dX4_dropsWish_0 : decode cX4_dropsWish 0 = .ok (.aload_n 0, 1) := by decide +kernel
theorem dX4_dropsWish_1 : decode cX4_dropsWish 1 = .ok (.iload_n 1, 1) := by decide +kernel
theorem dX4_dropsWish_2 : decode cX4_dropsWish 2 = .ok (.iload_n 2, 1) := by decide +kernel
theorem dX4_dropsWish_3 : decode cX4_dropsWish 3 = .ok (.invokevirtual 105, 3) := by decide +kernel
theorem dX4_dropsWish_6 : decode cX4_dropsWish 6 = .ok (.istore_n 3, 1) := by decide +kernel
theorem dX4_dropsWish_7 : decode cX4_dropsWish 7 = .ok (.iload_n 3, 1) := by decide +kernel
theorem dX4_dropsWish_8 : decode cX4_dropsWish 8 = .ok (.ifCond .ge 4, 3) := by decide +kernel
theorem dX4_dropsWish_11 : decode cX4_dropsWish 11 = .ok (.return_, 1) := by decide +kernel
theorem dX4_dropsWish_12 : decode cX4_dropsWish 12 = .ok (.iload_n 3, 1) := by decide +kernel
theorem dX4_dropsWish_13 : decode cX4_dropsWish 13 = .ok (.istore 4, 2) := by decide +kernel
theorem dX4_dropsWish_15 : decode cX4_dropsWish 15 = .ok (.iload 4, 2) := by decide +kernel
theorem dX4_dropsWish_17 : decode cX4_dropsWish 17 = .ok (.iconst 1, 1) := by decide +kernel
theorem dX4_dropsWish_18 : decode cX4_dropsWish 18 = .ok (.iadd, 1) := by decide +kernel
theorem dX4_dropsWish_19 : decode cX4_dropsWish 19 = .ok (.aload_n 0, 1) := by decide +kernel
theorem dX4_dropsWish_20 : decode cX4_dropsWish 20 = .ok (.getfield 34, 3) := by decide +kernel
theorem dX4_dropsWish_23 : decode cX4_dropsWish 23 = .ok (.iload_n 1, 1) := by decide +kernel
theorem dX4_dropsWish_24 : decode cX4_dropsWish 24 = .ok (.iaload, 1) := by decide +kernel
theorem dX4_dropsWish_25 : decode cX4_dropsWish 25 = .ok (.if_icmp .ge 35, 3) := by decide +kernel
theorem dX4_dropsWish_28 : decode cX4_dropsWish 28 = .ok (.aload_n 0, 1) := by decide +kernel
theorem dX4_dropsWish_29 : decode cX4_dropsWish 29 = .ok (.getfield 37, 3) := by decide +kernel
theorem dX4_dropsWish_32 : decode cX4_dropsWish 32 = .ok (.bipush 6, 2) := by decide +kernel
theorem dX4_dropsWish_34 : decode cX4_dropsWish 34 = .ok (.iload_n 1, 1) := by decide +kernel
theorem dX4_dropsWish_35 : decode cX4_dropsWish 35 = .ok (.imul, 1) := by decide +kernel
theorem dX4_dropsWish_36 : decode cX4_dropsWish 36 = .ok (.iload 4, 2) := by decide +kernel
theorem dX4_dropsWish_38 : decode cX4_dropsWish 38 = .ok (.iadd, 1) := by decide +kernel
theorem dX4_dropsWish_39 : decode cX4_dropsWish 39 = .ok (.aload_n 0, 1) := by decide +kernel
theorem dX4_dropsWish_40 : decode cX4_dropsWish 40 = .ok (.getfield 37, 3) := by decide +kernel
theorem dX4_dropsWish_43 : decode cX4_dropsWish 43 = .ok (.bipush 6, 2) := by decide +kernel
theorem dX4_dropsWish_45 : decode cX4_dropsWish 45 = .ok (.iload_n 1, 1) := by decide +kernel
theorem dX4_dropsWish_46 : decode cX4_dropsWish 46 = .ok (.imul, 1) := by decide +kernel
theorem dX4_dropsWish_47 : decode cX4_dropsWish 47 = .ok (.iload 4, 2) := by decide +kernel
theorem dX4_dropsWish_49 : decode cX4_dropsWish 49 = .ok (.iadd, 1) := by decide +kernel
theorem dX4_dropsWish_50 : decode cX4_dropsWish 50 = .ok (.iconst 1, 1) := by decide +kernel
theorem dX4_dropsWish_51 : decode cX4_dropsWish 51 = .ok (.iadd, 1) := by decide +kernel
theorem dX4_dropsWish_52 : decode cX4_dropsWish 52 = .ok (.iaload, 1) := by decide +kernel
theorem dX4_dropsWish_53 : decode cX4_dropsWish 53 = .ok (.iastore, 1) := by decide +kernel
theorem dX4_dropsWish_54 : decode cX4_dropsWish 54 = .ok (.iinc 4 1, 3) := by decide +kernel
theorem dX4_dropsWish_57 : decode cX4_dropsWish 57 = .ok (.goto (-42), 3) := by decide +kernel
theorem dX4_dropsWish_60 : decode cX4_dropsWish 60 = .ok (.aload_n 0, 1) := by decide +kernel
theorem dX4_dropsWish_61 : decode cX4_dropsWish 61 = .ok (.getfield 34, 3) := by decide +kernel
theorem dX4_dropsWish_64 : decode cX4_dropsWish 64 = .ok (.iload_n 1, 1) := by decide +kernel
theorem dX4_dropsWish_65 : decode cX4_dropsWish 65 = .ok (.dup2, 1) := by decide +kernel
theorem dX4_dropsWish_66 : decode cX4_dropsWish 66 = .ok (.iaload, 1) := by decide +kernel
theorem dX4_dropsWish_67 : decode cX4_dropsWish 67 = .ok (.iconst 1, 1) := by decide +kernel
theorem dX4_dropsWish_68 : decode cX4_dropsWish 68 = .ok (.isub, 1) := by decide +kernel
theorem dX4_dropsWish_69 : decode cX4_dropsWish 69 = .ok (.iastore, 1) := by decide +kernel
theorem dX4_dropsWish_70 : decode cX4_dropsWish 70 = .ok (.return_, 1) := by decide +kernel
theorem dX4_enrols_0 : decode cX4_enrols 0 = .ok (.aload_n 0, 1) := by decide +kernel
theorem dX4_enrols_1 : decode cX4_enrols 1 = .ok (.getfield 31, 3) := by decide +kernel
theorem dX4_enrols_4 : decode cX4_enrols 4 = .ok (.iload_n 1, 1) := by decide +kernel
theorem dX4_enrols_5 : decode cX4_enrols 5 = .ok (.dup2, 1) := by decide +kernel
theorem dX4_enrols_6 : decode cX4_enrols 6 = .ok (.iaload, 1) := by decide +kernel
theorem dX4_enrols_7 : decode cX4_enrols 7 = .ok (.iconst 1, 1) := by decide +kernel
theorem dX4_enrols_8 : decode cX4_enrols 8 = .ok (.iload_n 2, 1) := by decide +kernel
theorem dX4_enrols_9 : decode cX4_enrols 9 = .ok (.ishl, 1) := by decide +kernel
theorem dX4_enrols_10 : decode cX4_enrols 10 = .ok (.ior, 1) := by decide +kernel
theorem dX4_enrols_11 : decode cX4_enrols 11 = .ok (.iastore, 1) := by decide +kernel
theorem dX4_enrols_12 : decode cX4_enrols 12 = .ok (.aload_n 0, 1) := by decide +kernel
theorem dX4_enrols_13 : decode cX4_enrols 13 = .ok (.iload_n 1, 1) := by decide +kernel
theorem dX4_enrols_14 : decode cX4_enrols 14 = .ok (.iload_n 2, 1) := by decide +kernel
theorem dX4_enrols_15 : decode cX4_enrols 15 = .ok (.invokevirtual 108, 3) := by decide +kernel
theorem dX4_enrols_18 : decode cX4_enrols 18 = .ok (.aload_n 0, 1) := by decide +kernel
theorem dX4_enrols_19 : decode cX4_enrols 19 = .ok (.iload_n 1, 1) := by decide +kernel
theorem dX4_enrols_20 : decode cX4_enrols 20 = .ok (.iload_n 2, 1) := by decide +kernel
theorem dX4_enrols_21 : decode cX4_enrols 21 = .ok (.invokevirtual 112, 3) := by decide +kernel
theorem dX4_enrols_24 : decode cX4_enrols 24 = .ok (.return_, 1) := by decide +kernel
theorem dX4_gives_0 : decode cX4_gives 0 = .ok (.aload_n 0, 1) := by decide +kernel
theorem dX4_gives_1 : decode cX4_gives 1 = .ok (.getfield 31, 3) := by decide +kernel
theorem dX4_gives_4 : decode cX4_gives 4 = .ok (.iload_n 1, 1) := by decide +kernel
theorem dX4_gives_5 : decode cX4_gives 5 = .ok (.dup2, 1) := by decide +kernel
theorem dX4_gives_6 : decode cX4_gives 6 = .ok (.iaload, 1) := by decide +kernel
theorem dX4_gives_7 : decode cX4_gives 7 = .ok (.iconst 1, 1) := by decide +kernel
theorem dX4_gives_8 : decode cX4_gives 8 = .ok (.iload_n 2, 1) := by decide +kernel
theorem dX4_gives_9 : decode cX4_gives 9 = .ok (.ishl, 1) := by decide +kernel
theorem dX4_gives_10 : decode cX4_gives 10 = .ok (.iconst (-1), 1) := by decide +kernel
theorem dX4_gives_11 : decode cX4_gives 11 = .ok (.ixor, 1) := by decide +kernel
theorem dX4_gives_12 : decode cX4_gives 12 = .ok (.iand, 1) := by decide +kernel
theorem dX4_gives_13 : decode cX4_gives 13 = .ok (.iastore, 1) := by decide +kernel
theorem dX4_gives_14 : decode cX4_gives 14 = .ok (.aload_n 0, 1) := by decide +kernel
theorem dX4_gives_15 : decode cX4_gives 15 = .ok (.getfield 40, 3) := by decide +kernel
theorem dX4_gives_18 : decode cX4_gives 18 = .ok (.iload_n 1, 1) := by decide +kernel
theorem dX4_gives_19 : decode cX4_gives 19 = .ok (.aload_n 0, 1) := by decide +kernel
theorem dX4_gives_20 : decode cX4_gives 20 = .ok (.getfield 40, 3) := by decide +kernel
theorem dX4_gives_23 : decode cX4_gives 23 = .ok (.iload_n 1, 1) := by decide +kernel
theorem dX4_gives_24 : decode cX4_gives 24 = .ok (.iaload, 1) := by decide +kernel
theorem dX4_gives_25 : decode cX4_gives 25 = .ok (.iload_n 2, 1) := by decide +kernel
theorem dX4_gives_26 : decode cX4_gives 26 = .ok (.if_icmp .ne 7, 3) := by decide +kernel
theorem dX4_gives_29 : decode cX4_gives 29 = .ok (.iconst (-1), 1) := by decide +kernel
theorem dX4_gives_30 : decode cX4_gives 30 = .ok (.goto 9, 3) := by decide +kernel
theorem dX4_gives_33 : decode cX4_gives 33 = .ok (.aload_n 0, 1) := by decide +kernel
theorem dX4_gives_34 : decode cX4_gives 34 = .ok (.getfield 40, 3) := by decide +kernel
theorem dX4_gives_37 : decode cX4_gives 37 = .ok (.iload_n 1, 1) := by decide +kernel
theorem dX4_gives_38 : decode cX4_gives 38 = .ok (.iaload, 1) := by decide +kernel
theorem dX4_gives_39 : decode cX4_gives 39 = .ok (.iastore, 1) := by decide +kernel
theorem dX4_gives_40 : decode cX4_gives 40 = .ok (.return_, 1) := by decide +kernel
theorem dX4_offers_0 : decode cX4_offers 0 = .ok (.iconst 0, 1) := by decide +kernel
theorem dX4_offers_1 : decode cX4_offers 1 = .ok (.istore_n 1, 1) := by decide +kernel
theorem dX4_offers_2 : decode cX4_offers 2 = .ok (.iload_n 1, 1) := by decide +kernel
theorem dX4_offers_3 : decode cX4_offers 3 = .ok (.aload_n 0, 1) := by decide +kernel
theorem dX4_offers_4 : decode cX4_offers 4 = .ok (.getfield 71, 3) := by decide +kernel
theorem dX4_offers_7 : decode cX4_offers 7 = .ok (.if_icmp .ge 86, 3) := by decide +kernel
theorem dX4_offers_10 : decode cX4_offers 10 = .ok (.iconst 0, 1) := by decide +kernel
theorem dX4_offers_11 : decode cX4_offers 11 = .ok (.istore_n 2, 1) := by decide +kernel
theorem dX4_offers_12 : decode cX4_offers 12 = .ok (.iload_n 2, 1) := by decide +kernel
theorem dX4_offers_13 : decode cX4_offers 13 = .ok (.aload_n 0, 1) := by decide +kernel
theorem dX4_offers_14 : decode cX4_offers 14 = .ok (.getfield 46, 3) := by decide +kernel
theorem dX4_offers_17 : decode cX4_offers 17 = .ok (.iload_n 1, 1) := by decide +kernel
theorem dX4_offers_18 : decode cX4_offers 18 = .ok (.iaload, 1) := by decide +kernel
theorem dX4_offers_19 : decode cX4_offers 19 = .ok (.if_icmp .ge 68, 3) := by decide +kernel
theorem dX4_offers_22 : decode cX4_offers 22 = .ok (.aload_n 0, 1) := by decide +kernel
theorem dX4_offers_23 : decode cX4_offers 23 = .ok (.getfield 49, 3) := by decide +kernel
theorem dX4_offers_26 : decode cX4_offers 26 = .ok (.bipush 16, 2) := by decide +kernel
theorem dX4_offers_28 : decode cX4_offers 28 = .ok (.iload_n 1, 1) := by decide +kernel
theorem dX4_offers_29 : decode cX4_offers 29 = .ok (.imul, 1) := by decide +kernel
theorem dX4_offers_30 : decode cX4_offers 30 = .ok (.iload_n 2, 1) := by decide +kernel
theorem dX4_offers_31 : decode cX4_offers 31 = .ok (.iadd, 1) := by decide +kernel
theorem dX4_offers_32 : decode cX4_offers 32 = .ok (.iaload, 1) := by decide +kernel
theorem dX4_offers_33 : decode cX4_offers 33 = .ok (.istore_n 3, 1) := by decide +kernel
theorem dX4_offers_34 : decode cX4_offers 34 = .ok (.aload_n 0, 1) := by decide +kernel
theorem dX4_offers_35 : decode cX4_offers 35 = .ok (.iload_n 3, 1) := by decide +kernel
theorem dX4_offers_36 : decode cX4_offers 36 = .ok (.iload_n 1, 1) := by decide +kernel
theorem dX4_offers_37 : decode cX4_offers 37 = .ok (.invokevirtual 98, 3) := by decide +kernel
theorem dX4_offers_40 : decode cX4_offers 40 = .ok (.ifCond .ne 41, 3) := by decide +kernel
theorem dX4_offers_43 : decode cX4_offers 43 = .ok (.aload_n 0, 1) := by decide +kernel
theorem dX4_offers_44 : decode cX4_offers 44 = .ok (.iload_n 1, 1) := by decide +kernel
theorem dX4_offers_45 : decode cX4_offers 45 = .ok (.invokevirtual 115, 3) := by decide +kernel
theorem dX4_offers_48 : decode cX4_offers 48 = .ok (.ifCond .le 33, 3) := by decide +kernel
theorem dX4_offers_51 : decode cX4_offers 51 = .ok (.aload_n 0, 1) := by decide +kernel
theorem dX4_offers_52 : decode cX4_offers 52 = .ok (.iload_n 3, 1) := by decide +kernel
theorem dX4_offers_53 : decode cX4_offers 53 = .ok (.iload_n 1, 1) := by decide +kernel
theorem dX4_offers_54 : decode cX4_offers 54 = .ok (.aload_n 0, 1) := by decide +kernel
theorem dX4_offers_55 : decode cX4_offers 55 = .ok (.getfield 31, 3) := by decide +kernel
theorem dX4_offers_58 : decode cX4_offers 58 = .ok (.iload_n 3, 1) := by decide +kernel
theorem dX4_offers_59 : decode cX4_offers 59 = .ok (.iaload, 1) := by decide +kernel
theorem dX4_offers_60 : decode cX4_offers 60 = .ok (.invokevirtual 118, 3) := by decide +kernel
theorem dX4_offers_63 : decode cX4_offers 63 = .ok (.ifCond .ne 18, 3) := by decide +kernel
theorem dX4_offers_66 : decode cX4_offers 66 = .ok (.aload_n 0, 1) := by decide +kernel
theorem dX4_offers_67 : decode cX4_offers 67 = .ok (.getfield 52, 3) := by decide +kernel
theorem dX4_offers_70 : decode cX4_offers 70 = .ok (.bipush 16, 2) := by decide +kernel
theorem dX4_offers_72 : decode cX4_offers 72 = .ok (.iload_n 1, 1) := by decide +kernel
theorem dX4_offers_73 : decode cX4_offers 73 = .ok (.imul, 1) := by decide +kernel
theorem dX4_offers_74 : decode cX4_offers 74 = .ok (.iload_n 3, 1) := by decide +kernel
theorem dX4_offers_75 : decode cX4_offers 75 = .ok (.iadd, 1) := by decide +kernel
theorem dX4_offers_76 : decode cX4_offers 76 = .ok (.aload_n 0, 1) := by decide +kernel
theorem dX4_offers_77 : decode cX4_offers 77 = .ok (.getfield 64, 3) := by decide +kernel
theorem dX4_offers_80 : decode cX4_offers 80 = .ok (.iastore, 1) := by decide +kernel
theorem dX4_offers_81 : decode cX4_offers 81 = .ok (.iinc 2 1, 3) := by decide +kernel
theorem dX4_offers_84 : decode cX4_offers 84 = .ok (.goto (-72), 3) := by decide +kernel
theorem dX4_offers_87 : decode cX4_offers 87 = .ok (.iinc 1 1, 3) := by decide +kernel
theorem dX4_offers_90 : decode cX4_offers 90 = .ok (.goto (-88), 3) := by decide +kernel
theorem dX4_offers_93 : decode cX4_offers 93 = .ok (.return_, 1) := by decide +kernel
theorem dX4_addCourse_0 : decode cX4_addCourse 0 = .ok (.iload_n 1, 1) := by decide +kernel
theorem dX4_addCourse_1 : decode cX4_addCourse 1 = .ok (.ifCond .lt 34, 3) := by decide +kernel
theorem dX4_addCourse_4 : decode cX4_addCourse 4 = .ok (.iload_n 1, 1) := by decide +kernel
theorem dX4_addCourse_5 : decode cX4_addCourse 5 = .ok (.bipush 16, 2) := by decide +kernel
theorem dX4_addCourse_7 : decode cX4_addCourse 7 = .ok (.if_icmp .gt 28, 3) := by decide +kernel
theorem dX4_addCourse_10 : decode cX4_addCourse 10 = .ok (.iload_n 2, 1) := by decide +kernel
theorem dX4_addCourse_11 : decode cX4_addCourse 11 = .ok (.iconst 1, 1) := by decide +kernel
theorem dX4_addCourse_12 : decode cX4_addCourse 12 = .ok (.if_icmp .lt 23, 3) := by decide +kernel
theorem dX4_addCourse_15 : decode cX4_addCourse 15 = .ok (.iload_n 2, 1) := by decide +kernel
theorem dX4_addCourse_16 : decode cX4_addCourse 16 = .ok (.bipush 12, 2) := by decide +kernel
theorem dX4_addCourse_18 : decode cX4_addCourse 18 = .ok (.if_icmp .gt 17, 3) := by decide +kernel
theorem dX4_addCourse_21 : decode cX4_addCourse 21 = .ok (.iload_n 3, 1) := by decide +kernel
theorem dX4_addCourse_22 : decode cX4_addCourse 22 = .ok (.ifCond .lt 13, 3) := by decide +kernel
theorem dX4_addCourse_25 : decode cX4_addCourse 25 = .ok (.iload_n 3, 1) := by decide +kernel
theorem dX4_addCourse_26 : decode cX4_addCourse 26 = .ok (.ldc 122, 2) := by decide +kernel
theorem dX4_addCourse_28 : decode cX4_addCourse 28 = .ok (.if_icmp .gt 7, 3) := by decide +kernel
theorem dX4_addCourse_31 : decode cX4_addCourse 31 = .ok (.iconst 1, 1) := by decide +kernel
theorem dX4_addCourse_32 : decode cX4_addCourse 32 = .ok (.goto 4, 3) := by decide +kernel
theorem dX4_addCourse_35 : decode cX4_addCourse 35 = .ok (.iconst 0, 1) := by decide +kernel
theorem dX4_addCourse_36 : decode cX4_addCourse 36 = .ok (.istore 4, 2) := by decide +kernel
theorem dX4_addCourse_38 : decode cX4_addCourse 38 = .ok (.aload_n 0, 1) := by decide +kernel
theorem dX4_addCourse_39 : decode cX4_addCourse 39 = .ok (.iload 4, 2) := by decide +kernel
theorem dX4_addCourse_41 : decode cX4_addCourse 41 = .ok (.ifCond .ne 7, 3) := by decide +kernel
theorem dX4_addCourse_44 : decode cX4_addCourse 44 = .ok (.iconst 1, 1) := by decide +kernel
theorem dX4_addCourse_45 : decode cX4_addCourse 45 = .ok (.goto 17, 3) := by decide +kernel
theorem dX4_addCourse_48 : decode cX4_addCourse 48 = .ok (.aload_n 0, 1) := by decide +kernel
theorem dX4_addCourse_49 : decode cX4_addCourse 49 = .ok (.getfield 71, 3) := by decide +kernel
theorem dX4_addCourse_52 : decode cX4_addCourse 52 = .ok (.bipush 20, 2) := by decide +kernel
theorem dX4_addCourse_54 : decode cX4_addCourse 54 = .ok (.if_icmp .ne 7, 3) := by decide +kernel
theorem dX4_addCourse_57 : decode cX4_addCourse 57 = .ok (.iconst 2, 1) := by decide +kernel
theorem dX4_addCourse_58 : decode cX4_addCourse 58 = .ok (.goto 4, 3) := by decide +kernel
theorem dX4_addCourse_61 : decode cX4_addCourse 61 = .ok (.iconst 0, 1) := by decide +kernel
theorem dX4_addCourse_62 : decode cX4_addCourse 62 = .ok (.putfield 68, 3) := by decide +kernel
theorem dX4_addCourse_65 : decode cX4_addCourse 65 = .ok (.aload_n 0, 1) := by decide +kernel
theorem dX4_addCourse_66 : decode cX4_addCourse 66 = .ok (.getfield 68, 3) := by decide +kernel
theorem dX4_addCourse_69 : decode cX4_addCourse 69 = .ok (.ifCond .le 5, 3) := by decide +kernel
theorem dX4_addCourse_72 : decode cX4_addCourse 72 = .ok (.iconst 0, 1) := by decide +kernel
theorem dX4_addCourse_73 : decode cX4_addCourse 73 = .ok (.ireturn, 1) := by decide +kernel
theorem dX4_addCourse_74 : decode cX4_addCourse 74 = .ok (.aload_n 0, 1) := by decide +kernel
theorem dX4_addCourse_75 : decode cX4_addCourse 75 = .ok (.getfield 71, 3) := by decide +kernel
theorem dX4_addCourse_78 : decode cX4_addCourse 78 = .ok (.istore 5, 2) := by decide +kernel
theorem dX4_addCourse_80 : decode cX4_addCourse 80 = .ok (.aload_n 0, 1) := by decide +kernel
theorem dX4_addCourse_81 : decode cX4_addCourse 81 = .ok (.getfield 7, 3) := by decide +kernel
theorem dX4_addCourse_84 : decode cX4_addCourse 84 = .ok (.iload 5, 2) := by decide +kernel
theorem dX4_addCourse_86 : decode cX4_addCourse 86 = .ok (.iload_n 1, 1) := by decide +kernel
theorem dX4_addCourse_87 : decode cX4_addCourse 87 = .ok (.iastore, 1) := by decide +kernel
theorem dX4_addCourse_88 : decode cX4_addCourse 88 = .ok (.aload_n 0, 1) := by decide +kernel
theorem dX4_addCourse_89 : decode cX4_addCourse 89 = .ok (.getfield 13, 3) := by decide +kernel
theorem dX4_addCourse_92 : decode cX4_addCourse 92 = .ok (.iload 5, 2) := by decide +kernel
theorem dX4_addCourse_94 : decode cX4_addCourse 94 = .ok (.iload_n 2, 1) := by decide +kernel
theorem dX4_addCourse_95 : decode cX4_addCourse 95 = .ok (.iastore, 1) := by decide +kernel
theorem dX4_addCourse_96 : decode cX4_addCourse 96 = .ok (.aload_n 0, 1) := by decide +kernel
theorem dX4_addCourse_97 : decode cX4_addCourse 97 = .ok (.getfield 16, 3) := by decide +kernel
theorem dX4_addCourse_100 : decode cX4_addCourse 100 = .ok (.iload 5, 2) := by decide +kernel
theorem dX4_addCourse_102 : decode cX4_addCourse 102 = .ok (.iload_n 3, 1) := by decide +kernel
theorem dX4_addCourse_103 : decode cX4_addCourse 103 = .ok (.iastore, 1) := by decide +kernel
theorem dX4_addCourse_104 : decode cX4_addCourse 104 = .ok (.aload_n 0, 1) := by decide +kernel
theorem dX4_addCourse_105 : decode cX4_addCourse 105 = .ok (.getfield 19, 3) := by decide +kernel
theorem dX4_addCourse_108 : decode cX4_addCourse 108 = .ok (.iload 5, 2) := by decide +kernel
theorem dX4_addCourse_110 : decode cX4_addCourse 110 = .ok (.iconst 0, 1) := by decide +kernel
theorem dX4_addCourse_111 : decode cX4_addCourse 111 = .ok (.iastore, 1) := by decide +kernel
theorem dX4_addCourse_112 : decode cX4_addCourse 112 = .ok (.aload_n 0, 1) := by decide +kernel
theorem dX4_addCourse_113 : decode cX4_addCourse 113 = .ok (.getfield 46, 3) := by decide +kernel
theorem dX4_addCourse_116 : decode cX4_addCourse 116 = .ok (.iload 5, 2) := by decide +kernel
theorem dX4_addCourse_118 : decode cX4_addCourse 118 = .ok (.iconst 0, 1) := by decide +kernel
theorem dX4_addCourse_119 : decode cX4_addCourse 119 = .ok (.iastore, 1) := by decide +kernel
theorem dX4_addCourse_120 : decode cX4_addCourse 120 = .ok (.iconst 0, 1) := by decide +kernel
theorem dX4_addCourse_121 : decode cX4_addCourse 121 = .ok (.istore 6, 2) := by decide +kernel
theorem dX4_addCourse_123 : decode cX4_addCourse 123 = .ok (.iload 6, 2) := by decide +kernel
theorem dX4_addCourse_125 : decode cX4_addCourse 125 = .ok (.bipush 16, 2) := by decide +kernel
theorem dX4_addCourse_127 : decode cX4_addCourse 127 = .ok (.if_icmp .ge 23, 3) := by decide +kernel
theorem dX4_addCourse_130 : decode cX4_addCourse 130 = .ok (.aload_n 0, 1) := by decide +kernel
theorem dX4_addCourse_131 : decode cX4_addCourse 131 = .ok (.getfield 52, 3) := by decide +kernel
theorem dX4_addCourse_134 : decode cX4_addCourse 134 = .ok (.bipush 16, 2) := by decide +kernel
theorem dX4_addCourse_136 : decode cX4_addCourse 136 = .ok (.iload 5, 2) := by decide +kernel
theorem dX4_addCourse_138 : decode cX4_addCourse 138 = .ok (.imul, 1) := by decide +kernel
theorem dX4_addCourse_139 : decode cX4_addCourse 139 = .ok (.iload 6, 2) := by decide +kernel
theorem dX4_addCourse_141 : decode cX4_addCourse 141 = .ok (.iadd, 1) := by decide +kernel
theorem dX4_addCourse_142 : decode cX4_addCourse 142 = .ok (.iconst (-1), 1) := by decide +kernel
theorem dX4_addCourse_143 : decode cX4_addCourse 143 = .ok (.iastore, 1) := by decide +kernel
theorem dX4_addCourse_144 : decode cX4_addCourse 144 = .ok (.iinc 6 1, 3) := by decide +kernel
theorem dX4_addCourse_147 : decode cX4_addCourse 147 = .ok (.goto (-24), 3) := by decide +kernel
theorem dX4_addCourse_150 : decode cX4_addCourse 150 = .ok (.aload_n 0, 1) := by decide +kernel
theorem dX4_addCourse_151 : decode cX4_addCourse 151 = .ok (.dup, 1) := by decide +kernel
theorem dX4_addCourse_152 : decode cX4_addCourse 152 = .ok (.getfield 71, 3) := by decide +kernel
theorem dX4_addCourse_155 : decode cX4_addCourse 155 = .ok (.iconst 1, 1) := by decide +kernel
theorem dX4_addCourse_156 : decode cX4_addCourse 156 = .ok (.iadd, 1) := by decide +kernel
theorem dX4_addCourse_157 : decode cX4_addCourse 157 = .ok (.putfield 71, 3) := by decide +kernel
theorem dX4_addCourse_160 : decode cX4_addCourse 160 = .ok (.iload 5, 2) := by decide +kernel
theorem dX4_addCourse_162 : decode cX4_addCourse 162 = .ok (.ireturn, 1) := by decide +kernel
theorem dX4_setSeats_0 : decode cX4_setSeats 0 = .ok (.aload_n 0, 1) := by decide +kernel
theorem dX4_setSeats_1 : decode cX4_setSeats 1 = .ok (.aload_n 0, 1) := by decide +kernel
theorem dX4_setSeats_2 : decode cX4_setSeats 2 = .ok (.iload_n 1, 1) := by decide +kernel
theorem dX4_setSeats_3 : decode cX4_setSeats 3 = .ok (.invokevirtual 81, 3) := by decide +kernel
theorem dX4_setSeats_6 : decode cX4_setSeats 6 = .ok (.ifCond .ne 7, 3) := by decide +kernel
theorem dX4_setSeats_9 : decode cX4_setSeats 9 = .ok (.iconst 1, 1) := by decide +kernel
theorem dX4_setSeats_10 : decode cX4_setSeats 10 = .ok (.goto 18, 3) := by decide +kernel
theorem dX4_setSeats_13 : decode cX4_setSeats 13 = .ok (.iload_n 2, 1) := by decide +kernel
theorem dX4_setSeats_14 : decode cX4_setSeats 14 = .ok (.ifCond .lt 9, 3) := by decide +kernel
theorem dX4_setSeats_17 : decode cX4_setSeats 17 = .ok (.iload_n 2, 1) := by decide +kernel
theorem dX4_setSeats_18 : decode cX4_setSeats 18 = .ok (.bipush 16, 2) := by decide +kernel
theorem dX4_setSeats_20 : decode cX4_setSeats 20 = .ok (.if_icmp .le 7, 3) := by decide +kernel
theorem dX4_setSeats_23 : decode cX4_setSeats 23 = .ok (.iconst 2, 1) := by decide +kernel
theorem dX4_setSeats_24 : decode cX4_setSeats 24 = .ok (.goto 4, 3) := by decide +kernel
theorem dX4_setSeats_27 : decode cX4_setSeats 27 = .ok (.iconst 0, 1) := by decide +kernel
theorem dX4_setSeats_28 : decode cX4_setSeats 28 = .ok (.putfield 68, 3) := by decide +kernel
theorem dX4_setSeats_31 : decode cX4_setSeats 31 = .ok (.aload_n 0, 1) := by decide +kernel
theorem dX4_setSeats_32 : decode cX4_setSeats 32 = .ok (.getfield 68, 3) := by decide +kernel
theorem dX4_setSeats_35 : decode cX4_setSeats 35 = .ok (.ifCond .ne 24, 3) := by decide +kernel
theorem dX4_setSeats_38 : decode cX4_setSeats 38 = .ok (.iload_n 2, 1) := by decide +kernel
theorem dX4_setSeats_39 : decode cX4_setSeats 39 = .ok (.aload_n 0, 1) := by decide +kernel
theorem dX4_setSeats_40 : decode cX4_setSeats 40 = .ok (.getfield 7, 3) := by decide +kernel
theorem dX4_setSeats_43 : decode cX4_setSeats 43 = .ok (.iload_n 1, 1) := by decide +kernel
theorem dX4_setSeats_44 : decode cX4_setSeats 44 = .ok (.iaload, 1) := by decide +kernel
theorem dX4_setSeats_45 : decode cX4_setSeats 45 = .ok (.aload_n 0, 1) := by decide +kernel
theorem dX4_setSeats_46 : decode cX4_setSeats 46 = .ok (.iload_n 1, 1) := by decide +kernel
theorem dX4_setSeats_47 : decode cX4_setSeats 47 = .ok (.invokevirtual 115, 3) := by decide +kernel
theorem dX4_setSeats_50 : decode cX4_setSeats 50 = .ok (.isub, 1) := by decide +kernel
theorem dX4_setSeats_51 : decode cX4_setSeats 51 = .ok (.if_icmp .ge 8, 3) := by decide +kernel
theorem dX4_setSeats_54 : decode cX4_setSeats 54 = .ok (.aload_n 0, 1) := by decide +kernel
theorem dX4_setSeats_55 : decode cX4_setSeats 55 = .ok (.iconst 3, 1) := by decide +kernel
theorem dX4_setSeats_56 : decode cX4_setSeats 56 = .ok (.putfield 68, 3) := by decide +kernel
theorem dX4_setSeats_59 : decode cX4_setSeats 59 = .ok (.aload_n 0, 1) := by decide +kernel
theorem dX4_setSeats_60 : decode cX4_setSeats 60 = .ok (.getfield 68, 3) := by decide +kernel
theorem dX4_setSeats_63 : decode cX4_setSeats 63 = .ok (.ifCond .le 5, 3) := by decide +kernel
theorem dX4_setSeats_66 : decode cX4_setSeats 66 = .ok (.iconst 0, 1) := by decide +kernel
theorem dX4_setSeats_67 : decode cX4_setSeats 67 = .ok (.ireturn, 1) := by decide +kernel
theorem dX4_setSeats_68 : decode cX4_setSeats 68 = .ok (.aload_n 0, 1) := by decide +kernel
theorem dX4_setSeats_69 : decode cX4_setSeats 69 = .ok (.getfield 7, 3) := by decide +kernel
theorem dX4_setSeats_72 : decode cX4_setSeats 72 = .ok (.iload_n 1, 1) := by decide +kernel
theorem dX4_setSeats_73 : decode cX4_setSeats 73 = .ok (.iaload, 1) := by decide +kernel
theorem dX4_setSeats_74 : decode cX4_setSeats 74 = .ok (.istore_n 3, 1) := by decide +kernel
theorem dX4_setSeats_75 : decode cX4_setSeats 75 = .ok (.aload_n 0, 1) := by decide +kernel
theorem dX4_setSeats_76 : decode cX4_setSeats 76 = .ok (.getfield 7, 3) := by decide +kernel
theorem dX4_setSeats_79 : decode cX4_setSeats 79 = .ok (.iload_n 1, 1) := by decide +kernel
theorem dX4_setSeats_80 : decode cX4_setSeats 80 = .ok (.iload_n 2, 1) := by decide +kernel
theorem dX4_setSeats_81 : decode cX4_setSeats 81 = .ok (.iastore, 1) := by decide +kernel
theorem dX4_setSeats_82 : decode cX4_setSeats 82 = .ok (.aload_n 0, 1) := by decide +kernel
theorem dX4_setSeats_83 : decode cX4_setSeats 83 = .ok (.invokevirtual 123, 3) := by decide +kernel
theorem dX4_setSeats_86 : decode cX4_setSeats 86 = .ok (.iload_n 3, 1) := by decide +kernel
theorem dX4_setSeats_87 : decode cX4_setSeats 87 = .ok (.ireturn, 1) := by decide +kernel
theorem dX4_addPrerequisite_0 : decode cX4_addPrerequisite 0 = .ok (.aload_n 0, 1) := by decide +kernel
theorem dX4_addPrerequisite_1 : decode cX4_addPrerequisite 1 = .ok (.aload_n 0, 1) := by decide +kernel
theorem dX4_addPrerequisite_2 : decode cX4_addPrerequisite 2 = .ok (.iload_n 1, 1) := by decide +kernel
theorem dX4_addPrerequisite_3 : decode cX4_addPrerequisite 3 = .ok (.invokevirtual 81, 3) := by decide +kernel
theorem dX4_addPrerequisite_6 : decode cX4_addPrerequisite 6 = .ok (.ifCond .eq 15, 3) := by decide +kernel
theorem dX4_addPrerequisite_9 : decode cX4_addPrerequisite 9 = .ok (.aload_n 0, 1) := by decide +kernel
theorem dX4_addPrerequisite_10 : decode cX4_addPrerequisite 10 = .ok (.iload_n 2, 1) := by decide +kernel
theorem dX4_addPrerequisite_11 : decode cX4_addPrerequisite 11 = .ok (.invokevirtual 81, 3) := by decide +kernel
theorem dX4_addPrerequisite_14 : decode cX4_addPrerequisite 14 = .ok (.ifCond .eq 7, 3) := by decide +kernel
theorem dX4_addPrerequisite_17 : decode cX4_addPrerequisite 17 = .ok (.iconst 0, 1) := by decide +kernel
theorem dX4_addPrerequisite_18 : decode cX4_addPrerequisite 18 = .ok (.goto 4, 3) := by decide +kernel
theorem dX4_addPrerequisite_21 : decode cX4_addPrerequisite 21 = .ok (.iconst 1, 1) := by decide +kernel
theorem dX4_addPrerequisite_22 : decode cX4_addPrerequisite 22 = .ok (.putfield 68, 3) := by decide +kernel
theorem dX4_addPrerequisite_25 : decode cX4_addPrerequisite 25 = .ok (.aload_n 0, 1) := by decide +kernel
theorem dX4_addPrerequisite_26 : decode cX4_addPrerequisite 26 = .ok (.getfield 68, 3) := by decide +kernel
theorem dX4_addPrerequisite_29 : decode cX4_addPrerequisite 29 = .ok (.ifCond .ne 38, 3) := by decide +kernel
theorem dX4_addPrerequisite_32 : decode cX4_addPrerequisite 32 = .ok (.iload_n 1, 1) := by decide +kernel
theorem dX4_addPrerequisite_33 : decode cX4_addPrerequisite 33 = .ok (.iload_n 2, 1) := by decide +kernel
theorem dX4_addPrerequisite_34 : decode cX4_addPrerequisite 34 = .ok (.if_icmp .eq 28, 3) := by decide +kernel
theorem dX4_addPrerequisite_37 : decode cX4_addPrerequisite 37 = .ok (.aload_n 0, 1) := by decide +kernel
theorem dX4_addPrerequisite_38 : decode cX4_addPrerequisite 38 = .ok (.getfield 19, 3) := by decide +kernel
theorem dX4_addPrerequisite_41 : decode cX4_addPrerequisite 41 = .ok (.iload_n 1, 1) := by decide +kernel
theorem dX4_addPrerequisite_42 : decode cX4_addPrerequisite 42 = .ok (.iaload, 1) := by decide +kernel
theorem dX4_addPrerequisite_43 : decode cX4_addPrerequisite 43 = .ok (.iload_n 2, 1) := by decide +kernel
theorem dX4_addPrerequisite_44 : decode cX4_addPrerequisite 44 = .ok (.invokestatic 84, 3) := by decide +kernel
theorem dX4_addPrerequisite_47 : decode cX4_addPrerequisite 47 = .ok (.ifCond .ne 15, 3) := by decide +kernel
theorem dX4_addPrerequisite_50 : decode cX4_addPrerequisite 50 = .ok (.aload_n 0, 1) := by decide +kernel
theorem dX4_addPrerequisite_51 : decode cX4_addPrerequisite 51 = .ok (.iload_n 2, 1) := by decide +kernel
theorem dX4_addPrerequisite_52 : decode cX4_addPrerequisite 52 = .ok (.invokevirtual 88, 3) := by decide +kernel
theorem dX4_addPrerequisite_55 : decode cX4_addPrerequisite 55 = .ok (.iload_n 1, 1) := by decide +kernel
theorem dX4_addPrerequisite_56 : decode cX4_addPrerequisite 56 = .ok (.invokestatic 84, 3) := by decide +kernel
theorem dX4_addPrerequisite_59 : decode cX4_addPrerequisite 59 = .ok (.ifCond .eq 8, 3) := by decide +kernel
theorem dX4_addPrerequisite_62 : decode cX4_addPrerequisite 62 = .ok (.aload_n 0, 1) := by decide +kernel
theorem dX4_addPrerequisite_63 : decode cX4_addPrerequisite 63 = .ok (.iconst 2, 1) := by decide +kernel
theorem dX4_addPrerequisite_64 : decode cX4_addPrerequisite 64 = .ok (.putfield 68, 3) := by decide +kernel
theorem dX4_addPrerequisite_67 : decode cX4_addPrerequisite 67 = .ok (.aload_n 0, 1) := by decide +kernel
theorem dX4_addPrerequisite_68 : decode cX4_addPrerequisite 68 = .ok (.getfield 68, 3) := by decide +kernel
theorem dX4_addPrerequisite_71 : decode cX4_addPrerequisite 71 = .ok (.ifCond .le 5, 3) := by decide +kernel
theorem dX4_addPrerequisite_74 : decode cX4_addPrerequisite 74 = .ok (.iconst 0, 1) := by decide +kernel
theorem dX4_addPrerequisite_75 : decode cX4_addPrerequisite 75 = .ok (.ireturn, 1) := by decide +kernel
theorem dX4_addPrerequisite_76 : decode cX4_addPrerequisite 76 = .ok (.aload_n 0, 1) := by decide +kernel
theorem dX4_addPrerequisite_77 : decode cX4_addPrerequisite 77 = .ok (.getfield 19, 3) := by decide +kernel
theorem dX4_addPrerequisite_80 : decode cX4_addPrerequisite 80 = .ok (.iload_n 1, 1) := by decide +kernel
theorem dX4_addPrerequisite_81 : decode cX4_addPrerequisite 81 = .ok (.dup2, 1) := by decide +kernel
theorem dX4_addPrerequisite_82 : decode cX4_addPrerequisite 82 = .ok (.iaload, 1) := by decide +kernel
theorem dX4_addPrerequisite_83 : decode cX4_addPrerequisite 83 = .ok (.iconst 1, 1) := by decide +kernel
theorem dX4_addPrerequisite_84 : decode cX4_addPrerequisite 84 = .ok (.iload_n 2, 1) := by decide +kernel
theorem dX4_addPrerequisite_85 : decode cX4_addPrerequisite 85 = .ok (.ishl, 1) := by decide +kernel
theorem dX4_addPrerequisite_86 : decode cX4_addPrerequisite 86 = .ok (.ior, 1) := by decide +kernel
theorem dX4_addPrerequisite_87 : decode cX4_addPrerequisite 87 = .ok (.iastore, 1) := by decide +kernel
theorem dX4_addPrerequisite_88 : decode cX4_addPrerequisite 88 = .ok (.aload_n 0, 1) := by decide +kernel
theorem dX4_addPrerequisite_89 : decode cX4_addPrerequisite 89 = .ok (.invokevirtual 123, 3) := by decide +kernel
theorem dX4_addPrerequisite_92 : decode cX4_addPrerequisite 92 = .ok (.aload_n 0, 1) := by decide +kernel
theorem dX4_addPrerequisite_93 : decode cX4_addPrerequisite 93 = .ok (.iload_n 1, 1) := by decide +kernel
theorem dX4_addPrerequisite_94 : decode cX4_addPrerequisite 94 = .ok (.invokevirtual 88, 3) := by decide +kernel
theorem dX4_addPrerequisite_97 : decode cX4_addPrerequisite 97 = .ok (.invokestatic 126, 3) := by decide +kernel
theorem dX4_addPrerequisite_100 : decode cX4_addPrerequisite 100 = .ok (.ireturn, 1) := by decide +kernel
theorem dX4_requires_0 : decode cX4_requires 0 = .ok (.aload_n 0, 1) := by decide +kernel
theorem dX4_requires_1 : decode cX4_requires 1 = .ok (.aload_n 0, 1) := by decide +kernel
theorem dX4_requires_2 : decode cX4_requires 2 = .ok (.iload_n 1, 1) := by decide +kernel
theorem dX4_requires_3 : decode cX4_requires 3 = .ok (.invokevirtual 81, 3) := by decide +kernel
theorem dX4_requires_6 : decode cX4_requires 6 = .ok (.ifCond .eq 15, 3) := by decide +kernel
theorem dX4_requires_9 : decode cX4_requires 9 = .ok (.aload_n 0, 1) := by decide +kernel
theorem dX4_requires_10 : decode cX4_requires 10 = .ok (.iload_n 2, 1) := by decide +kernel
theorem dX4_requires_11 : decode cX4_requires 11 = .ok (.invokevirtual 81, 3) := by decide +kernel
theorem dX4_requires_14 : decode cX4_requires 14 = .ok (.ifCond .eq 7, 3) := by decide +kernel
theorem dX4_requires_17 : decode cX4_requires 17 = .ok (.iconst 0, 1) := by decide +kernel
theorem dX4_requires_18 : decode cX4_requires 18 = .ok (.goto 4, 3) := by decide +kernel
theorem dX4_requires_21 : decode cX4_requires 21 = .ok (.iconst 1, 1) := by decide +kernel
theorem dX4_requires_22 : decode cX4_requires 22 = .ok (.putfield 68, 3) := by decide +kernel
theorem dX4_requires_25 : decode cX4_requires 25 = .ok (.aload_n 0, 1) := by decide +kernel
theorem dX4_requires_26 : decode cX4_requires 26 = .ok (.getfield 68, 3) := by decide +kernel
theorem dX4_requires_29 : decode cX4_requires 29 = .ok (.ifCond .ne 19, 3) := by decide +kernel
theorem dX4_requires_32 : decode cX4_requires 32 = .ok (.aload_n 0, 1) := by decide +kernel
theorem dX4_requires_33 : decode cX4_requires 33 = .ok (.iload_n 1, 1) := by decide +kernel
theorem dX4_requires_34 : decode cX4_requires 34 = .ok (.invokevirtual 88, 3) := by decide +kernel
theorem dX4_requires_37 : decode cX4_requires 37 = .ok (.iload_n 2, 1) := by decide +kernel
theorem dX4_requires_38 : decode cX4_requires 38 = .ok (.invokestatic 84, 3) := by decide +kernel
theorem dX4_requires_41 : decode cX4_requires 41 = .ok (.ifCond .eq 7, 3) := by decide +kernel
theorem dX4_requires_44 : decode cX4_requires 44 = .ok (.iconst 1, 1) := by decide +kernel
theorem dX4_requires_45 : decode cX4_requires 45 = .ok (.goto 4, 3) := by decide +kernel
theorem dX4_requires_48 : decode cX4_requires 48 = .ok (.iconst 0, 1) := by decide +kernel
theorem dX4_requires_49 : decode cX4_requires 49 = .ok (.ireturn, 1) := by decide +kernel
theorem dX4_level_0 : decode cX4_level 0 = .ok (.aload_n 0, 1) := by decide +kernel
theorem dX4_level_1 : decode cX4_level 1 = .ok (.aload_n 0, 1) := by decide +kernel
theorem dX4_level_2 : decode cX4_level 2 = .ok (.iload_n 1, 1) := by decide +kernel
theorem dX4_level_3 : decode cX4_level 3 = .ok (.invokevirtual 81, 3) := by decide +kernel
theorem dX4_level_6 : decode cX4_level 6 = .ok (.ifCond .eq 7, 3) := by decide +kernel
theorem dX4_level_9 : decode cX4_level 9 = .ok (.iconst 0, 1) := by decide +kernel
theorem dX4_level_10 : decode cX4_level 10 = .ok (.goto 4, 3) := by decide +kernel
theorem dX4_level_13 : decode cX4_level 13 = .ok (.iconst 1, 1) := by decide +kernel
theorem dX4_level_14 : decode cX4_level 14 = .ok (.putfield 68, 3) := by decide +kernel
theorem dX4_level_17 : decode cX4_level 17 = .ok (.aload_n 0, 1) := by decide +kernel
theorem dX4_level_18 : decode cX4_level 18 = .ok (.getfield 68, 3) := by decide +kernel
theorem dX4_level_21 : decode cX4_level 21 = .ok (.ifCond .le 5, 3) := by decide +kernel
theorem dX4_level_24 : decode cX4_level 24 = .ok (.iconst 0, 1) := by decide +kernel
theorem dX4_level_25 : decode cX4_level 25 = .ok (.ireturn, 1) := by decide +kernel
theorem dX4_level_26 : decode cX4_level 26 = .ok (.iconst 0, 1) := by decide +kernel
theorem dX4_level_27 : decode cX4_level 27 = .ok (.istore_n 2, 1) := by decide +kernel
theorem dX4_level_28 : decode cX4_level 28 = .ok (.iload_n 2, 1) := by decide +kernel
theorem dX4_level_29 : decode cX4_level 29 = .ok (.aload_n 0, 1) := by decide +kernel
theorem dX4_level_30 : decode cX4_level 30 = .ok (.getfield 71, 3) := by decide +kernel
theorem dX4_level_33 : decode cX4_level 33 = .ok (.if_icmp .ge 16, 3) := by decide +kernel
theorem dX4_level_36 : decode cX4_level 36 = .ok (.aload_n 0, 1) := by decide +kernel
theorem dX4_level_37 : decode cX4_level 37 = .ok (.getfield 55, 3) := by decide +kernel
theorem dX4_level_40 : decode cX4_level 40 = .ok (.iload_n 2, 1) := by decide +kernel
theorem dX4_level_41 : decode cX4_level 41 = .ok (.iconst 0, 1) := by decide +kernel
theorem dX4_level_42 : decode cX4_level 42 = .ok (.iastore, 1) := by decide +kernel
theorem dX4_level_43 : decode cX4_level 43 = .ok (.iinc 2 1, 3) := by decide +kernel
theorem dX4_level_46 : decode cX4_level 46 = .ok (.goto (-18), 3) := by decide +kernel
theorem dX4_level_49 : decode cX4_level 49 = .ok (.iconst 0, 1) := by decide +kernel
theorem dX4_level_50 : decode cX4_level 50 = .ok (.istore_n 2, 1) := by decide +kernel
theorem dX4_level_51 : decode cX4_level 51 = .ok (.iload_n 2, 1) := by decide +kernel
theorem dX4_level_52 : decode cX4_level 52 = .ok (.bipush 20, 2) := by decide +kernel
theorem dX4_level_54 : decode cX4_level 54 = .ok (.if_icmp .ge 97, 3) := by decide +kernel
theorem dX4_level_57 : decode cX4_level 57 = .ok (.iconst 0, 1) := by decide +kernel
theorem dX4_level_58 : decode cX4_level 58 = .ok (.istore_n 3, 1) := by decide +kernel
theorem dX4_level_59 : decode cX4_level 59 = .ok (.iload_n 3, 1) := by decide +kernel
theorem dX4_level_60 : decode cX4_level 60 = .ok (.aload_n 0, 1) := by decide +kernel
theorem dX4_level_61 : decode cX4_level 61 = .ok (.getfield 71, 3) := by decide +kernel
theorem dX4_level_64 : decode cX4_level 64 = .ok (.if_icmp .ge 81, 3) := by decide +kernel
theorem dX4_level_67 : decode cX4_level 67 = .ok (.iconst 0, 1) := by decide +kernel
theorem dX4_level_68 : decode cX4_level 68 = .ok (.istore 4, 2) := by decide +kernel
theorem dX4_level_70 : decode cX4_level 70 = .ok (.iload 4, 2) := by decide +kernel
theorem dX4_level_72 : decode cX4_level 72 = .ok (.aload_n 0, 1) := by decide +kernel
theorem dX4_level_73 : decode cX4_level 73 = .ok (.getfield 71, 3) := by decide +kernel
theorem dX4_level_76 : decode cX4_level 76 = .ok (.if_icmp .ge 63, 3) := by decide +kernel
theorem dX4_level_79 : decode cX4_level 79 = .ok (.aload_n 0, 1) := by decide +kernel
theorem dX4_level_80 : decode cX4_level 80 = .ok (.getfield 55, 3) := by decide +kernel
theorem dX4_level_83 : decode cX4_level 83 = .ok (.iload_n 3, 1) := by decide +kernel
theorem dX4_level_84 : decode cX4_level 84 = .ok (.aload_n 0, 1) := by decide +kernel
theorem dX4_level_85 : decode cX4_level 85 = .ok (.getfield 19, 3) := by decide +kernel
theorem dX4_level_88 : decode cX4_level 88 = .ok (.iload_n 3, 1) := by decide +kernel
theorem dX4_level_89 : decode cX4_level 89 = .ok (.iaload, 1) := by decide +kernel
theorem dX4_level_90 : decode cX4_level 90 = .ok (.iload 4, 2) := by decide +kernel
theorem dX4_level_92 : decode cX4_level 92 = .ok (.invokestatic 84, 3) := by decide +kernel
theorem dX4_level_95 : decode cX4_level 95 = .ok (.ifCond .eq 31, 3) := by decide +kernel
theorem dX4_level_98 : decode cX4_level 98 = .ok (.aload_n 0, 1) := by decide +kernel
theorem dX4_level_99 : decode cX4_level 99 = .ok (.getfield 55, 3) := by decide +kernel
theorem dX4_level_102 : decode cX4_level 102 = .ok (.iload 4, 2) := by decide +kernel
theorem dX4_level_104 : decode cX4_level 104 = .ok (.iaload, 1) := by decide +kernel
theorem dX4_level_105 : decode cX4_level 105 = .ok (.aload_n 0, 1) := by decide +kernel
theorem dX4_level_106 : decode cX4_level 106 = .ok (.getfield 55, 3) := by decide +kernel
theorem dX4_level_109 : decode cX4_level 109 = .ok (.iload_n 3, 1) := by decide +kernel
theorem dX4_level_110 : decode cX4_level 110 = .ok (.iaload, 1) := by decide +kernel
theorem dX4_level_111 : decode cX4_level 111 = .ok (.if_icmp .lt 15, 3) := by decide +kernel
theorem dX4_level_114 : decode cX4_level 114 = .ok (.aload_n 0, 1) := by decide +kernel
theorem dX4_level_115 : decode cX4_level 115 = .ok (.getfield 55, 3) := by decide +kernel
theorem dX4_level_118 : decode cX4_level 118 = .ok (.iload 4, 2) := by decide +kernel
theorem dX4_level_120 : decode cX4_level 120 = .ok (.iaload, 1) := by decide +kernel
theorem dX4_level_121 : decode cX4_level 121 = .ok (.iconst 1, 1) := by decide +kernel
theorem dX4_level_122 : decode cX4_level 122 = .ok (.iadd, 1) := by decide +kernel
theorem dX4_level_123 : decode cX4_level 123 = .ok (.goto 9, 3) := by decide +kernel
theorem dX4_level_126 : decode cX4_level 126 = .ok (.aload_n 0, 1) := by decide +kernel
theorem dX4_level_127 : decode cX4_level 127 = .ok (.getfield 55, 3) := by decide +kernel
theorem dX4_level_130 : decode cX4_level 130 = .ok (.iload_n 3, 1) := by decide +kernel
theorem dX4_level_131 : decode cX4_level 131 = .ok (.iaload, 1) := by decide +kernel
theorem dX4_level_132 : decode cX4_level 132 = .ok (.iastore, 1) := by decide +kernel
theorem dX4_level_133 : decode cX4_level 133 = .ok (.iinc 4 1, 3) := by decide +kernel
theorem dX4_level_136 : decode cX4_level 136 = .ok (.goto (-66), 3) := by decide +kernel
theorem dX4_level_139 : decode cX4_level 139 = .ok (.iinc 3 1, 3) := by decide +kernel
theorem dX4_level_142 : decode cX4_level 142 = .ok (.goto (-83), 3) := by decide +kernel
theorem dX4_level_145 : decode cX4_level 145 = .ok (.iinc 2 1, 3) := by decide +kernel
theorem dX4_level_148 : decode cX4_level 148 = .ok (.goto (-97), 3) := by decide +kernel
theorem dX4_level_151 : decode cX4_level 151 = .ok (.aload_n 0, 1) := by decide +kernel
theorem dX4_level_152 : decode cX4_level 152 = .ok (.getfield 55, 3) := by decide +kernel
theorem dX4_level_155 : decode cX4_level 155 = .ok (.iload_n 1, 1) := by decide +kernel
theorem dX4_level_156 : decode cX4_level 156 = .ok (.iaload, 1) := by decide +kernel
theorem dX4_level_157 : decode cX4_level 157 = .ok (.ireturn, 1) := by decide +kernel
theorem dX4_courses_0 : decode cX4_courses 0 = .ok (.aload_n 0, 1) := by decide +kernel
theorem dX4_courses_1 : decode cX4_courses 1 = .ok (.iconst 0, 1) := by decide +kernel
theorem dX4_courses_2 : decode cX4_courses 2 = .ok (.putfield 68, 3) := by decide +kernel
theorem dX4_courses_5 : decode cX4_courses 5 = .ok (.aload_n 0, 1) := by decide +kernel
theorem dX4_courses_6 : decode cX4_courses 6 = .ok (.getfield 71, 3) := by decide +kernel
theorem dX4_courses_9 : decode cX4_courses 9 = .ok (.ireturn, 1) := by decide +kernel
theorem dX4_enrolled_0 : decode cX4_enrolled 0 = .ok (.aload_n 0, 1) := by decide +kernel
theorem dX4_enrolled_1 : decode cX4_enrolled 1 = .ok (.aload_n 0, 1) := by decide +kernel
theorem dX4_enrolled_2 : decode cX4_enrolled 2 = .ok (.iload_n 1, 1) := by decide +kernel
theorem dX4_enrolled_3 : decode cX4_enrolled 3 = .ok (.invokevirtual 81, 3) := by decide +kernel
theorem dX4_enrolled_6 : decode cX4_enrolled 6 = .ok (.ifCond .eq 7, 3) := by decide +kernel
theorem dX4_enrolled_9 : decode cX4_enrolled 9 = .ok (.iconst 0, 1) := by decide +kernel
theorem dX4_enrolled_10 : decode cX4_enrolled 10 = .ok (.goto 4, 3) := by decide +kernel
theorem dX4_enrolled_13 : decode cX4_enrolled 13 = .ok (.iconst 1, 1) := by decide +kernel
theorem dX4_enrolled_14 : decode cX4_enrolled 14 = .ok (.putfield 68, 3) := by decide +kernel
theorem dX4_enrolled_17 : decode cX4_enrolled 17 = .ok (.aload_n 0, 1) := by decide +kernel
theorem dX4_enrolled_18 : decode cX4_enrolled 18 = .ok (.getfield 68, 3) := by decide +kernel
theorem dX4_enrolled_21 : decode cX4_enrolled 21 = .ok (.ifCond .ne 11, 3) := by decide +kernel
theorem dX4_enrolled_24 : decode cX4_enrolled 24 = .ok (.aload_n 0, 1) := by decide +kernel
theorem dX4_enrolled_25 : decode cX4_enrolled 25 = .ok (.iload_n 1, 1) := by decide +kernel
theorem dX4_enrolled_26 : decode cX4_enrolled 26 = .ok (.invokevirtual 95, 3) := by decide +kernel
theorem dX4_enrolled_29 : decode cX4_enrolled 29 = .ok (.goto 4, 3) := by decide +kernel
theorem dX4_enrolled_32 : decode cX4_enrolled 32 = .ok (.iconst 0, 1) := by decide +kernel
theorem dX4_enrolled_33 : decode cX4_enrolled 33 = .ok (.ireturn, 1) := by decide +kernel
theorem dX4_freeSeats_0 : decode cX4_freeSeats 0 = .ok (.aload_n 0, 1) := by decide +kernel
theorem dX4_freeSeats_1 : decode cX4_freeSeats 1 = .ok (.aload_n 0, 1) := by decide +kernel
theorem dX4_freeSeats_2 : decode cX4_freeSeats 2 = .ok (.iload_n 1, 1) := by decide +kernel
theorem dX4_freeSeats_3 : decode cX4_freeSeats 3 = .ok (.invokevirtual 81, 3) := by decide +kernel
theorem dX4_freeSeats_6 : decode cX4_freeSeats 6 = .ok (.ifCond .eq 7, 3) := by decide +kernel
theorem dX4_freeSeats_9 : decode cX4_freeSeats 9 = .ok (.iconst 0, 1) := by decide +kernel
theorem dX4_freeSeats_10 : decode cX4_freeSeats 10 = .ok (.goto 4, 3) := by decide +kernel
theorem dX4_freeSeats_13 : decode cX4_freeSeats 13 = .ok (.iconst 1, 1) := by decide +kernel
theorem dX4_freeSeats_14 : decode cX4_freeSeats 14 = .ok (.putfield 68, 3) := by decide +kernel
theorem dX4_freeSeats_17 : decode cX4_freeSeats 17 = .ok (.aload_n 0, 1) := by decide +kernel
theorem dX4_freeSeats_18 : decode cX4_freeSeats 18 = .ok (.getfield 68, 3) := by decide +kernel
theorem dX4_freeSeats_21 : decode cX4_freeSeats 21 = .ok (.ifCond .ne 11, 3) := by decide +kernel
theorem dX4_freeSeats_24 : decode cX4_freeSeats 24 = .ok (.aload_n 0, 1) := by decide +kernel
theorem dX4_freeSeats_25 : decode cX4_freeSeats 25 = .ok (.iload_n 1, 1) := by decide +kernel
theorem dX4_freeSeats_26 : decode cX4_freeSeats 26 = .ok (.invokevirtual 115, 3) := by decide +kernel
theorem dX4_freeSeats_29 : decode cX4_freeSeats 29 = .ok (.goto 4, 3) := by decide +kernel
theorem dX4_freeSeats_32 : decode cX4_freeSeats 32 = .ok (.iconst 0, 1) := by decide +kernel
theorem dX4_freeSeats_33 : decode cX4_freeSeats 33 = .ok (.ireturn, 1) := by decide +kernel
theorem dX4_addStudent_0 : decode cX4_addStudent 0 = .ok (.aload_n 0, 1) := by decide +kernel
theorem dX4_addStudent_1 : decode cX4_addStudent 1 = .ok (.iload_n 1, 1) := by decide +kernel
theorem dX4_addStudent_2 : decode cX4_addStudent 2 = .ok (.ifCond .lt 19, 3) := by decide +kernel
theorem dX4_addStudent_5 : decode cX4_addStudent 5 = .ok (.iload_n 1, 1) := by decide +kernel
theorem dX4_addStudent_6 : decode cX4_addStudent 6 = .ok (.iconst 3, 1) := by decide +kernel
theorem dX4_addStudent_7 : decode cX4_addStudent 7 = .ok (.if_icmp .gt 14, 3) := by decide +kernel
theorem dX4_addStudent_10 : decode cX4_addStudent 10 = .ok (.iload_n 2, 1) := by decide +kernel
theorem dX4_addStudent_11 : decode cX4_addStudent 11 = .ok (.iconst 1, 1) := by decide +kernel
theorem dX4_addStudent_12 : decode cX4_addStudent 12 = .ok (.if_icmp .lt 9, 3) := by decide +kernel
theorem dX4_addStudent_15 : decode cX4_addStudent 15 = .ok (.iload_n 2, 1) := by decide +kernel
theorem dX4_addStudent_16 : decode cX4_addStudent 16 = .ok (.bipush 40, 2) := by decide +kernel
theorem dX4_addStudent_18 : decode cX4_addStudent 18 = .ok (.if_icmp .le 7, 3) := by decide +kernel
theorem dX4_addStudent_21 : decode cX4_addStudent 21 = .ok (.iconst 1, 1) := by decide +kernel
theorem dX4_addStudent_22 : decode cX4_addStudent 22 = .ok (.goto 17, 3) := by decide +kernel
theorem dX4_addStudent_25 : decode cX4_addStudent 25 = .ok (.aload_n 0, 1) := by decide +kernel
theorem dX4_addStudent_26 : decode cX4_addStudent 26 = .ok (.getfield 74, 3) := by decide +kernel
theorem dX4_addStudent_29 : decode cX4_addStudent 29 = .ok (.bipush 16, 2) := by decide +kernel
theorem dX4_addStudent_31 : decode cX4_addStudent 31 = .ok (.if_icmp .ne 7, 3) := by decide +kernel
theorem dX4_addStudent_34 : decode cX4_addStudent 34 = .ok (.iconst 2, 1) := by decide +kernel
theorem dX4_addStudent_35 : decode cX4_addStudent 35 = .ok (.goto 4, 3) := by decide +kernel
theorem dX4_addStudent_38 : decode cX4_addStudent 38 = .ok (.iconst 0, 1) := by decide +kernel
theorem dX4_addStudent_39 : decode cX4_addStudent 39 = .ok (.putfield 68, 3) := by decide +kernel
theorem dX4_addStudent_42 : decode cX4_addStudent 42 = .ok (.aload_n 0, 1) := by decide +kernel
theorem dX4_addStudent_43 : decode cX4_addStudent 43 = .ok (.getfield 68, 3) := by decide +kernel
theorem dX4_addStudent_46 : decode cX4_addStudent 46 = .ok (.ifCond .le 5, 3) := by decide +kernel
theorem dX4_addStudent_49 : decode cX4_addStudent 49 = .ok (.iconst 0, 1) := by decide +kernel
theorem dX4_addStudent_50 : decode cX4_addStudent 50 = .ok (.ireturn, 1) := by decide +kernel
theorem dX4_addStudent_51 : decode cX4_addStudent 51 = .ok (.aload_n 0, 1) := by decide +kernel
theorem dX4_addStudent_52 : decode cX4_addStudent 52 = .ok (.getfield 74, 3) := by decide +kernel
theorem dX4_addStudent_55 : decode cX4_addStudent 55 = .ok (.istore_n 3, 1) := by decide +kernel
theorem dX4_addStudent_56 : decode cX4_addStudent 56 = .ok (.aload_n 0, 1) := by decide +kernel
theorem dX4_addStudent_57 : decode cX4_addStudent 57 = .ok (.getfield 22, 3) := by decide +kernel
theorem dX4_addStudent_60 : decode cX4_addStudent 60 = .ok (.iload_n 3, 1) := by decide +kernel
theorem dX4_addStudent_61 : decode cX4_addStudent 61 = .ok (.iload_n 1, 1) := by decide +kernel
theorem dX4_addStudent_62 : decode cX4_addStudent 62 = .ok (.iastore, 1) := by decide +kernel
theorem dX4_addStudent_63 : decode cX4_addStudent 63 = .ok (.aload_n 0, 1) := by decide +kernel
theorem dX4_addStudent_64 : decode cX4_addStudent 64 = .ok (.getfield 25, 3) := by decide +kernel
theorem dX4_addStudent_67 : decode cX4_addStudent 67 = .ok (.iload_n 3, 1) := by decide +kernel
theorem dX4_addStudent_68 : decode cX4_addStudent 68 = .ok (.iload_n 2, 1) := by decide +kernel
theorem dX4_addStudent_69 : decode cX4_addStudent 69 = .ok (.iastore, 1) := by decide +kernel
theorem dX4_addStudent_70 : decode cX4_addStudent 70 = .ok (.aload_n 0, 1) := by decide +kernel
theorem dX4_addStudent_71 : decode cX4_addStudent 71 = .ok (.getfield 28, 3) := by decide +kernel
theorem dX4_addStudent_74 : decode cX4_addStudent 74 = .ok (.iload_n 3, 1) := by decide +kernel
theorem dX4_addStudent_75 : decode cX4_addStudent 75 = .ok (.iconst 0, 1) := by decide +kernel
theorem dX4_addStudent_76 : decode cX4_addStudent 76 = .ok (.iastore, 1) := by decide +kernel
theorem dX4_addStudent_77 : decode cX4_addStudent 77 = .ok (.aload_n 0, 1) := by decide +kernel
theorem dX4_addStudent_78 : decode cX4_addStudent 78 = .ok (.getfield 31, 3) := by decide +kernel
theorem dX4_addStudent_81 : decode cX4_addStudent 81 = .ok (.iload_n 3, 1) := by decide +kernel
theorem dX4_addStudent_82 : decode cX4_addStudent 82 = .ok (.iconst 0, 1) := by decide +kernel
theorem dX4_addStudent_83 : decode cX4_addStudent 83 = .ok (.iastore, 1) := by decide +kernel
theorem dX4_addStudent_84 : decode cX4_addStudent 84 = .ok (.aload_n 0, 1) := by decide +kernel
theorem dX4_addStudent_85 : decode cX4_addStudent 85 = .ok (.getfield 34, 3) := by decide +kernel
theorem dX4_addStudent_88 : decode cX4_addStudent 88 = .ok (.iload_n 3, 1) := by decide +kernel
theorem dX4_addStudent_89 : decode cX4_addStudent 89 = .ok (.iconst 0, 1) := by decide +kernel
theorem dX4_addStudent_90 : decode cX4_addStudent 90 = .ok (.iastore, 1) := by decide +kernel
theorem dX4_addStudent_91 : decode cX4_addStudent 91 = .ok (.aload_n 0, 1) := by decide +kernel
theorem dX4_addStudent_92 : decode cX4_addStudent 92 = .ok (.getfield 40, 3) := by decide +kernel
theorem dX4_addStudent_95 : decode cX4_addStudent 95 = .ok (.iload_n 3, 1) := by decide +kernel
theorem dX4_addStudent_96 : decode cX4_addStudent 96 = .ok (.iconst (-1), 1) := by decide +kernel
theorem dX4_addStudent_97 : decode cX4_addStudent 97 = .ok (.iastore, 1) := by decide +kernel
theorem dX4_addStudent_98 : decode cX4_addStudent 98 = .ok (.aload_n 0, 1) := by decide +kernel
theorem dX4_addStudent_99 : decode cX4_addStudent 99 = .ok (.getfield 43, 3) := by decide +kernel
theorem dX4_addStudent_102 : decode cX4_addStudent 102 = .ok (.iload_n 3, 1) := by decide +kernel
theorem dX4_addStudent_103 : decode cX4_addStudent 103 = .ok (.iconst (-1), 1) := by decide +kernel
theorem dX4_addStudent_104 : decode cX4_addStudent 104 = .ok (.iastore, 1) := by decide +kernel
theorem dX4_addStudent_105 : decode cX4_addStudent 105 = .ok (.iconst 0, 1) := by decide +kernel
theorem dX4_addStudent_106 : decode cX4_addStudent 106 = .ok (.istore 4, 2) := by decide +kernel
theorem dX4_addStudent_108 : decode cX4_addStudent 108 = .ok (.iload 4, 2) := by decide +kernel
theorem dX4_addStudent_110 : decode cX4_addStudent 110 = .ok (.bipush 20, 2) := by decide +kernel
theorem dX4_addStudent_112 : decode cX4_addStudent 112 = .ok (.if_icmp .ge 22, 3) := by decide +kernel
theorem dX4_addStudent_115 : decode cX4_addStudent 115 = .ok (.aload_n 0, 1) := by decide +kernel
theorem dX4_addStudent_116 : decode cX4_addStudent 116 = .ok (.getfield 52, 3) := by decide +kernel
theorem dX4_addStudent_119 : decode cX4_addStudent 119 = .ok (.bipush 16, 2) := by decide +kernel
theorem dX4_addStudent_121 : decode cX4_addStudent 121 = .ok (.iload 4, 2) := by decide +kernel
theorem dX4_addStudent_123 : decode cX4_addStudent 123 = .ok (.imul, 1) := by decide +kernel
theorem dX4_addStudent_124 : decode cX4_addStudent 124 = .ok (.iload_n 3, 1) := by decide +kernel
theorem dX4_addStudent_125 : decode cX4_addStudent 125 = .ok (.iadd, 1) := by decide +kernel
theorem dX4_addStudent_126 : decode cX4_addStudent 126 = .ok (.iconst (-1), 1) := by decide +kernel
theorem dX4_addStudent_127 : decode cX4_addStudent 127 = .ok (.iastore, 1) := by decide +kernel
theorem dX4_addStudent_128 : decode cX4_addStudent 128 = .ok (.iinc 4 1, 3) := by decide +kernel
theorem dX4_addStudent_131 : decode cX4_addStudent 131 = .ok (.goto (-23), 3) := by decide +kernel
theorem dX4_addStudent_134 : decode cX4_addStudent 134 = .ok (.aload_n 0, 1) := by decide +kernel
theorem dX4_addStudent_135 : decode cX4_addStudent 135 = .ok (.dup, 1) := by decide +kernel
theorem dX4_addStudent_136 : decode cX4_addStudent 136 = .ok (.getfield 74, 3) := by decide +kernel
theorem dX4_addStudent_139 : decode cX4_addStudent 139 = .ok (.iconst 1, 1) := by decide +kernel
theorem dX4_addStudent_140 : decode cX4_addStudent 140 = .ok (.iadd, 1) := by decide +kernel
theorem dX4_addStudent_141 : decode cX4_addStudent 141 = .ok (.putfield 74, 3) := by decide +kernel
theorem dX4_addStudent_144 : decode cX4_addStudent 144 = .ok (.iload_n 3, 1) := by decide +kernel
theorem dX4_addStudent_145 : decode cX4_addStudent 145 = .ok (.ireturn, 1) := by decide +kernel
theorem dX4_pass_0 : decode cX4_pass 0 = .ok (.aload_n 0, 1) := by decide +kernel
theorem dX4_pass_1 : decode cX4_pass 1 = .ok (.iload_n 1, 1) := by decide +kernel
theorem dX4_pass_2 : decode cX4_pass 2 = .ok (.iload_n 2, 1) := by decide +kernel
theorem dX4_pass_3 : decode cX4_pass 3 = .ok (.invokevirtual 129, 3) := by decide +kernel
theorem dX4_pass_6 : decode cX4_pass 6 = .ok (.ifCond .ne 5, 3) := by decide +kernel
theorem dX4_pass_9 : decode cX4_pass 9 = .ok (.iconst 0, 1) := by decide +kernel
theorem dX4_pass_10 : decode cX4_pass 10 = .ok (.ireturn, 1) := by decide +kernel
theorem dX4_pass_11 : decode cX4_pass 11 = .ok (.aload_n 0, 1) := by decide +kernel
theorem dX4_pass_12 : decode cX4_pass 12 = .ok (.getfield 28, 3) := by decide +kernel
theorem dX4_pass_15 : decode cX4_pass 15 = .ok (.iload_n 1, 1) := by decide +kernel
theorem dX4_pass_16 : decode cX4_pass 16 = .ok (.iaload, 1) := by decide +kernel
theorem dX4_pass_17 : decode cX4_pass 17 = .ok (.iload_n 2, 1) := by decide +kernel
theorem dX4_pass_18 : decode cX4_pass 18 = .ok (.invokestatic 84, 3) := by decide +kernel
theorem dX4_pass_21 : decode cX4_pass 21 = .ok (.ifCond .ne 16, 3) := by decide +kernel
theorem dX4_pass_24 : decode cX4_pass 24 = .ok (.aload_n 0, 1) := by decide +kernel
theorem dX4_pass_25 : decode cX4_pass 25 = .ok (.getfield 31, 3) := by decide +kernel
theorem dX4_pass_28 : decode cX4_pass 28 = .ok (.iload_n 1, 1) := by decide +kernel
theorem dX4_pass_29 : decode cX4_pass 29 = .ok (.iaload, 1) := by decide +kernel
theorem dX4_pass_30 : decode cX4_pass 30 = .ok (.iload_n 2, 1) := by decide +kernel
theorem dX4_pass_31 : decode cX4_pass 31 = .ok (.invokestatic 84, 3) := by decide +kernel
theorem dX4_pass_34 : decode cX4_pass 34 = .ok (.ifCond .eq 10, 3) := by decide +kernel
theorem dX4_pass_37 : decode cX4_pass 37 = .ok (.aload_n 0, 1) := by decide +kernel
theorem dX4_pass_38 : decode cX4_pass 38 = .ok (.iconst 2, 1) := by decide +kernel
theorem dX4_pass_39 : decode cX4_pass 39 = .ok (.putfield 68, 3) := by decide +kernel
theorem dX4_pass_42 : decode cX4_pass 42 = .ok (.iconst 0, 1) := by decide +kernel
theorem dX4_pass_43 : decode cX4_pass 43 = .ok (.ireturn, 1) := by decide +kernel
theorem dX4_pass_44 : decode cX4_pass 44 = .ok (.aload_n 0, 1) := by decide +kernel
theorem dX4_pass_45 : decode cX4_pass 45 = .ok (.getfield 28, 3) := by decide +kernel
theorem dX4_pass_48 : decode cX4_pass 48 = .ok (.iload_n 1, 1) := by decide +kernel
theorem dX4_pass_49 : decode cX4_pass 49 = .ok (.dup2, 1) := by decide +kernel
theorem dX4_pass_50 : decode cX4_pass 50 = .ok (.iaload, 1) := by decide +kernel
theorem dX4_pass_51 : decode cX4_pass 51 = .ok (.iconst 1, 1) := by decide +kernel
theorem dX4_pass_52 : decode cX4_pass 52 = .ok (.iload_n 2, 1) := by decide +kernel
theorem dX4_pass_53 : decode cX4_pass 53 = .ok (.ishl, 1) := by decide +kernel
theorem dX4_pass_54 : decode cX4_pass 54 = .ok (.ior, 1) := by decide +kernel
theorem dX4_pass_55 : decode cX4_pass 55 = .ok (.iastore, 1) := by decide +kernel
theorem dX4_pass_56 : decode cX4_pass 56 = .ok (.aload_n 0, 1) := by decide +kernel
theorem dX4_pass_57 : decode cX4_pass 57 = .ok (.iload_n 1, 1) := by decide +kernel
theorem dX4_pass_58 : decode cX4_pass 58 = .ok (.iload_n 2, 1) := by decide +kernel
theorem dX4_pass_59 : decode cX4_pass 59 = .ok (.invokevirtual 108, 3) := by decide +kernel
theorem dX4_pass_62 : decode cX4_pass 62 = .ok (.aload_n 0, 1) := by decide +kernel
theorem dX4_pass_63 : decode cX4_pass 63 = .ok (.iload_n 1, 1) := by decide +kernel
theorem dX4_pass_64 : decode cX4_pass 64 = .ok (.iload_n 2, 1) := by decide +kernel
theorem dX4_pass_65 : decode cX4_pass 65 = .ok (.invokevirtual 112, 3) := by decide +kernel
theorem dX4_pass_68 : decode cX4_pass 68 = .ok (.aload_n 0, 1) := by decide +kernel
theorem dX4_pass_69 : decode cX4_pass 69 = .ok (.invokevirtual 123, 3) := by decide +kernel
theorem dX4_pass_72 : decode cX4_pass 72 = .ok (.aload_n 0, 1) := by decide +kernel
theorem dX4_pass_73 : decode cX4_pass 73 = .ok (.getfield 28, 3) := by decide +kernel
theorem dX4_pass_76 : decode cX4_pass 76 = .ok (.iload_n 1, 1) := by decide +kernel
theorem dX4_pass_77 : decode cX4_pass 77 = .ok (.iaload, 1) := by decide +kernel
theorem dX4_pass_78 : decode cX4_pass 78 = .ok (.invokestatic 126, 3) := by decide +kernel
theorem dX4_pass_81 : decode cX4_pass 81 = .ok (.ireturn, 1) := by decide +kernel
theorem dX4_students_0 : decode cX4_students 0 = .ok (.aload_n 0, 1) := by decide +kernel
theorem dX4_students_1 : decode cX4_students 1 = .ok (.iconst 0, 1) := by decide +kernel
theorem dX4_students_2 : decode cX4_students 2 = .ok (.putfield 68, 3) := by decide +kernel
theorem dX4_students_5 : decode cX4_students 5 = .ok (.aload_n 0, 1) := by decide +kernel
theorem dX4_students_6 : decode cX4_students 6 = .ok (.getfield 74, 3) := by decide +kernel
theorem dX4_students_9 : decode cX4_students 9 = .ok (.ireturn, 1) := by decide +kernel
theorem dX4_hasPassed_0 : decode cX4_hasPassed 0 = .ok (.aload_n 0, 1) := by decide +kernel
theorem dX4_hasPassed_1 : decode cX4_hasPassed 1 = .ok (.iload_n 1, 1) := by decide +kernel
theorem dX4_hasPassed_2 : decode cX4_hasPassed 2 = .ok (.iload_n 2, 1) := by decide +kernel
theorem dX4_hasPassed_3 : decode cX4_hasPassed 3 = .ok (.invokevirtual 129, 3) := by decide +kernel
theorem dX4_hasPassed_6 : decode cX4_hasPassed 6 = .ok (.ifCond .eq 20, 3) := by decide +kernel
theorem dX4_hasPassed_9 : decode cX4_hasPassed 9 = .ok (.aload_n 0, 1) := by decide +kernel
theorem dX4_hasPassed_10 : decode cX4_hasPassed 10 = .ok (.getfield 28, 3) := by decide +kernel
theorem dX4_hasPassed_13 : decode cX4_hasPassed 13 = .ok (.iload_n 1, 1) := by decide +kernel
theorem dX4_hasPassed_14 : decode cX4_hasPassed 14 = .ok (.iaload, 1) := by decide +kernel
theorem dX4_hasPassed_15 : decode cX4_hasPassed 15 = .ok (.iload_n 2, 1) := by decide +kernel
theorem dX4_hasPassed_16 : decode cX4_hasPassed 16 = .ok (.invokestatic 84, 3) := by decide +kernel
theorem dX4_hasPassed_19 : decode cX4_hasPassed 19 = .ok (.ifCond .eq 7, 3) := by decide +kernel
theorem dX4_hasPassed_22 : decode cX4_hasPassed 22 = .ok (.iconst 1, 1) := by decide +kernel
theorem dX4_hasPassed_23 : decode cX4_hasPassed 23 = .ok (.goto 4, 3) := by decide +kernel
theorem dX4_hasPassed_26 : decode cX4_hasPassed 26 = .ok (.iconst 0, 1) := by decide +kernel
theorem dX4_hasPassed_27 : decode cX4_hasPassed 27 = .ok (.ireturn, 1) := by decide +kernel
theorem dX4_isEnrolled_0 : decode cX4_isEnrolled 0 = .ok (.aload_n 0, 1) := by decide +kernel
theorem dX4_isEnrolled_1 : decode cX4_isEnrolled 1 = .ok (.iload_n 1, 1) := by decide +kernel
theorem dX4_isEnrolled_2 : decode cX4_isEnrolled 2 = .ok (.iload_n 2, 1) := by decide +kernel
theorem dX4_isEnrolled_3 : decode cX4_isEnrolled 3 = .ok (.invokevirtual 129, 3) := by decide +kernel
theorem dX4_isEnrolled_6 : decode cX4_isEnrolled 6 = .ok (.ifCond .eq 20, 3) := by decide +kernel
theorem dX4_isEnrolled_9 : decode cX4_isEnrolled 9 = .ok (.aload_n 0, 1) := by decide +kernel
theorem dX4_isEnrolled_10 : decode cX4_isEnrolled 10 = .ok (.getfield 31, 3) := by decide +kernel
theorem dX4_isEnrolled_13 : decode cX4_isEnrolled 13 = .ok (.iload_n 1, 1) := by decide +kernel
theorem dX4_isEnrolled_14 : decode cX4_isEnrolled 14 = .ok (.iaload, 1) := by decide +kernel
theorem dX4_isEnrolled_15 : decode cX4_isEnrolled 15 = .ok (.iload_n 2, 1) := by decide +kernel
theorem dX4_isEnrolled_16 : decode cX4_isEnrolled 16 = .ok (.invokestatic 84, 3) := by decide +kernel
theorem dX4_isEnrolled_19 : decode cX4_isEnrolled 19 = .ok (.ifCond .eq 7, 3) := by decide +kernel
theorem dX4_isEnrolled_22 : decode cX4_isEnrolled 22 = .ok (.iconst 1, 1) := by decide +kernel
theorem dX4_isEnrolled_23 : decode cX4_isEnrolled 23 = .ok (.goto 4, 3) := by decide +kernel
theorem dX4_isEnrolled_26 : decode cX4_isEnrolled 26 = .ok (.iconst 0, 1) := by decide +kernel
theorem dX4_isEnrolled_27 : decode cX4_isEnrolled 27 = .ok (.ireturn, 1) := by decide +kernel
theorem dX4_credits_0 : decode cX4_credits 0 = .ok (.aload_n 0, 1) := by decide +kernel
theorem dX4_credits_1 : decode cX4_credits 1 = .ok (.aload_n 0, 1) := by decide +kernel
theorem dX4_credits_2 : decode cX4_credits 2 = .ok (.iload_n 1, 1) := by decide +kernel
theorem dX4_credits_3 : decode cX4_credits 3 = .ok (.invokevirtual 77, 3) := by decide +kernel
theorem dX4_credits_6 : decode cX4_credits 6 = .ok (.ifCond .eq 7, 3) := by decide +kernel
theorem dX4_credits_9 : decode cX4_credits 9 = .ok (.iconst 0, 1) := by decide +kernel
theorem dX4_credits_10 : decode cX4_credits 10 = .ok (.goto 4, 3) := by decide +kernel
theorem dX4_credits_13 : decode cX4_credits 13 = .ok (.iconst 1, 1) := by decide +kernel
theorem dX4_credits_14 : decode cX4_credits 14 = .ok (.putfield 68, 3) := by decide +kernel
theorem dX4_credits_17 : decode cX4_credits 17 = .ok (.aload_n 0, 1) := by decide +kernel
theorem dX4_credits_18 : decode cX4_credits 18 = .ok (.getfield 68, 3) := by decide +kernel
theorem dX4_credits_21 : decode cX4_credits 21 = .ok (.ifCond .ne 16, 3) := by decide +kernel
theorem dX4_credits_24 : decode cX4_credits 24 = .ok (.aload_n 0, 1) := by decide +kernel
theorem dX4_credits_25 : decode cX4_credits 25 = .ok (.aload_n 0, 1) := by decide +kernel
theorem dX4_credits_26 : decode cX4_credits 26 = .ok (.getfield 31, 3) := by decide +kernel
theorem dX4_credits_29 : decode cX4_credits 29 = .ok (.iload_n 1, 1) := by decide +kernel
theorem dX4_credits_30 : decode cX4_credits 30 = .ok (.iaload, 1) := by decide +kernel
theorem dX4_credits_31 : decode cX4_credits 31 = .ok (.invokevirtual 92, 3) := by decide +kernel
theorem dX4_credits_34 : decode cX4_credits 34 = .ok (.goto 4, 3) := by decide +kernel
theorem dX4_credits_37 : decode cX4_credits 37 = .ok (.iconst 0, 1) := by decide +kernel
theorem dX4_credits_38 : decode cX4_credits 38 = .ok (.ireturn, 1) := by decide +kernel
theorem dX4_missing_0 : decode cX4_missing 0 = .ok (.aload_n 0, 1) := by decide +kernel
theorem dX4_missing_1 : decode cX4_missing 1 = .ok (.iload_n 1, 1) := by decide +kernel
theorem dX4_missing_2 : decode cX4_missing 2 = .ok (.iload_n 2, 1) := by decide +kernel
theorem dX4_missing_3 : decode cX4_missing 3 = .ok (.invokevirtual 129, 3) := by decide +kernel
theorem dX4_missing_6 : decode cX4_missing 6 = .ok (.ifCond .eq 23, 3) := by decide +kernel
theorem dX4_missing_9 : decode cX4_missing 9 = .ok (.aload_n 0, 1) := by decide +kernel
theorem dX4_missing_10 : decode cX4_missing 10 = .ok (.iload_n 2, 1) := by decide +kernel
theorem dX4_missing_11 : decode cX4_missing 11 = .ok (.invokevirtual 88, 3) := by decide +kernel
theorem dX4_missing_14 : decode cX4_missing 14 = .ok (.aload_n 0, 1) := by decide +kernel
theorem dX4_missing_15 : decode cX4_missing 15 = .ok (.getfield 28, 3) := by decide +kernel
theorem dX4_missing_18 : decode cX4_missing 18 = .ok (.iload_n 1, 1) := by decide +kernel
theorem dX4_missing_19 : decode cX4_missing 19 = .ok (.iaload, 1) := by decide +kernel
theorem dX4_missing_20 : decode cX4_missing 20 = .ok (.iconst (-1), 1) := by decide +kernel
theorem dX4_missing_21 : decode cX4_missing 21 = .ok (.ixor, 1) := by decide +kernel
theorem dX4_missing_22 : decode cX4_missing 22 = .ok (.iand, 1) := by decide +kernel
theorem dX4_missing_23 : decode cX4_missing 23 = .ok (.invokestatic 126, 3) := by decide +kernel
theorem dX4_missing_26 : decode cX4_missing 26 = .ok (.goto 4, 3) := by decide +kernel
theorem dX4_missing_29 : decode cX4_missing 29 = .ok (.iconst 0, 1) := by decide +kernel
theorem dX4_missing_30 : decode cX4_missing 30 = .ok (.ireturn, 1) := by decide +kernel
theorem dX4_obstacle_0 : decode cX4_obstacle 0 = .ok (.aload_n 0, 1) := by decide +kernel
theorem dX4_obstacle_1 : decode cX4_obstacle 1 = .ok (.iload_n 1, 1) := by decide +kernel
theorem dX4_obstacle_2 : decode cX4_obstacle 2 = .ok (.iload_n 2, 1) := by decide +kernel
theorem dX4_obstacle_3 : decode cX4_obstacle 3 = .ok (.invokevirtual 129, 3) := by decide +kernel
theorem dX4_obstacle_6 : decode cX4_obstacle 6 = .ok (.ifCond .eq 18, 3) := by decide +kernel
theorem dX4_obstacle_9 : decode cX4_obstacle 9 = .ok (.aload_n 0, 1) := by decide +kernel
theorem dX4_obstacle_10 : decode cX4_obstacle 10 = .ok (.iload_n 1, 1) := by decide +kernel
theorem dX4_obstacle_11 : decode cX4_obstacle 11 = .ok (.iload_n 2, 1) := by decide +kernel
theorem dX4_obstacle_12 : decode cX4_obstacle 12 = .ok (.aload_n 0, 1) := by decide +kernel
theorem dX4_obstacle_13 : decode cX4_obstacle 13 = .ok (.getfield 31, 3) := by decide +kernel
theorem dX4_obstacle_16 : decode cX4_obstacle 16 = .ok (.iload_n 1, 1) := by decide +kernel
theorem dX4_obstacle_17 : decode cX4_obstacle 17 = .ok (.iaload, 1) := by decide +kernel
theorem dX4_obstacle_18 : decode cX4_obstacle 18 = .ok (.invokevirtual 118, 3) := by decide +kernel
theorem dX4_obstacle_21 : decode cX4_obstacle 21 = .ok (.goto 4, 3) := by decide +kernel
theorem dX4_obstacle_24 : decode cX4_obstacle 24 = .ok (.iconst 0, 1) := by decide +kernel
theorem dX4_obstacle_25 : decode cX4_obstacle 25 = .ok (.ireturn, 1) := by decide +kernel
theorem dX4_wish_0 : decode cX4_wish 0 = .ok (.aload_n 0, 1) := by decide +kernel
theorem dX4_wish_1 : decode cX4_wish 1 = .ok (.iload_n 1, 1) := by decide +kernel
theorem dX4_wish_2 : decode cX4_wish 2 = .ok (.iload_n 2, 1) := by decide +kernel
theorem dX4_wish_3 : decode cX4_wish 3 = .ok (.invokevirtual 129, 3) := by decide +kernel
theorem dX4_wish_6 : decode cX4_wish 6 = .ok (.ifCond .ne 5, 3) := by decide +kernel
theorem dX4_wish_9 : decode cX4_wish 9 = .ok (.iconst 0, 1) := by decide +kernel
theorem dX4_wish_10 : decode cX4_wish 10 = .ok (.ireturn, 1) := by decide +kernel
theorem dX4_wish_11 : decode cX4_wish 11 = .ok (.aload_n 0, 1) := by decide +kernel
theorem dX4_wish_12 : decode cX4_wish 12 = .ok (.getfield 28, 3) := by decide +kernel
theorem dX4_wish_15 : decode cX4_wish 15 = .ok (.iload_n 1, 1) := by decide +kernel
theorem dX4_wish_16 : decode cX4_wish 16 = .ok (.iaload, 1) := by decide +kernel
theorem dX4_wish_17 : decode cX4_wish 17 = .ok (.aload_n 0, 1) := by decide +kernel
theorem dX4_wish_18 : decode cX4_wish 18 = .ok (.getfield 31, 3) := by decide +kernel
theorem dX4_wish_21 : decode cX4_wish 21 = .ok (.iload_n 1, 1) := by decide +kernel
theorem dX4_wish_22 : decode cX4_wish 22 = .ok (.iaload, 1) := by decide +kernel
theorem dX4_wish_23 : decode cX4_wish 23 = .ok (.ior, 1) := by decide +kernel
theorem dX4_wish_24 : decode cX4_wish 24 = .ok (.iload_n 2, 1) := by decide +kernel
theorem dX4_wish_25 : decode cX4_wish 25 = .ok (.invokestatic 84, 3) := by decide +kernel
theorem dX4_wish_28 : decode cX4_wish 28 = .ok (.ifCond .ne 23, 3) := by decide +kernel
theorem dX4_wish_31 : decode cX4_wish 31 = .ok (.aload_n 0, 1) := by decide +kernel
theorem dX4_wish_32 : decode cX4_wish 32 = .ok (.iload_n 1, 1) := by decide +kernel
theorem dX4_wish_33 : decode cX4_wish 33 = .ok (.iload_n 2, 1) := by decide +kernel
theorem dX4_wish_34 : decode cX4_wish 34 = .ok (.invokevirtual 105, 3) := by decide +kernel
theorem dX4_wish_37 : decode cX4_wish 37 = .ok (.ifCond .ge 14, 3) := by decide +kernel
theorem dX4_wish_40 : decode cX4_wish 40 = .ok (.aload_n 0, 1) := by decide +kernel
theorem dX4_wish_41 : decode cX4_wish 41 = .ok (.getfield 34, 3) := by decide +kernel
theorem dX4_wish_44 : decode cX4_wish 44 = .ok (.iload_n 1, 1) := by decide +kernel
theorem dX4_wish_45 : decode cX4_wish 45 = .ok (.iaload, 1) := by decide +kernel
theorem dX4_wish_46 : decode cX4_wish 46 = .ok (.bipush 6, 2) := by decide +kernel
theorem dX4_wish_48 : decode cX4_wish 48 = .ok (.if_icmp .ne 10, 3) := by decide +kernel
theorem dX4_wish_51 : decode cX4_wish 51 = .ok (.aload_n 0, 1) := by decide +kernel
theorem dX4_wish_52 : decode cX4_wish 52 = .ok (.iconst 2, 1) := by decide +kernel
theorem dX4_wish_53 : decode cX4_wish 53 = .ok (.putfield 68, 3) := by decide +kernel
theorem dX4_wish_56 : decode cX4_wish 56 = .ok (.iconst 0, 1) := by decide +kernel
theorem dX4_wish_57 : decode cX4_wish 57 = .ok (.ireturn, 1) := by decide +kernel
theorem dX4_wish_58 : decode cX4_wish 58 = .ok (.aload_n 0, 1) := by decide +kernel
theorem dX4_wish_59 : decode cX4_wish 59 = .ok (.getfield 37, 3) := by decide +kernel
theorem dX4_wish_62 : decode cX4_wish 62 = .ok (.bipush 6, 2) := by decide +kernel
theorem dX4_wish_64 : decode cX4_wish 64 = .ok (.iload_n 1, 1) := by decide +kernel
theorem dX4_wish_65 : decode cX4_wish 65 = .ok (.imul, 1) := by decide +kernel
theorem dX4_wish_66 : decode cX4_wish 66 = .ok (.aload_n 0, 1) := by decide +kernel
theorem dX4_wish_67 : decode cX4_wish 67 = .ok (.getfield 34, 3) := by decide +kernel
theorem dX4_wish_70 : decode cX4_wish 70 = .ok (.iload_n 1, 1) := by decide +kernel
theorem dX4_wish_71 : decode cX4_wish 71 = .ok (.iaload, 1) := by decide +kernel
theorem dX4_wish_72 : decode cX4_wish 72 = .ok (.iadd, 1) := by decide +kernel
theorem dX4_wish_73 : decode cX4_wish 73 = .ok (.iload_n 2, 1) := by decide +kernel
theorem dX4_wish_74 : decode cX4_wish 74 = .ok (.iastore, 1) := by decide +kernel
theorem dX4_wish_75 : decode cX4_wish 75 = .ok (.aload_n 0, 1) := by decide +kernel
theorem dX4_wish_76 : decode cX4_wish 76 = .ok (.getfield 34, 3) := by decide +kernel
theorem dX4_wish_79 : decode cX4_wish 79 = .ok (.iload_n 1, 1) := by decide +kernel
theorem dX4_wish_80 : decode cX4_wish 80 = .ok (.dup2, 1) := by decide +kernel
theorem dX4_wish_81 : decode cX4_wish 81 = .ok (.iaload, 1) := by decide +kernel
theorem dX4_wish_82 : decode cX4_wish 82 = .ok (.iconst 1, 1) := by decide +kernel
theorem dX4_wish_83 : decode cX4_wish 83 = .ok (.iadd, 1) := by decide +kernel
theorem dX4_wish_84 : decode cX4_wish 84 = .ok (.iastore, 1) := by decide +kernel
theorem dX4_wish_85 : decode cX4_wish 85 = .ok (.aload_n 0, 1) := by decide +kernel
theorem dX4_wish_86 : decode cX4_wish 86 = .ok (.getfield 34, 3) := by decide +kernel
theorem dX4_wish_89 : decode cX4_wish 89 = .ok (.iload_n 1, 1) := by decide +kernel
theorem dX4_wish_90 : decode cX4_wish 90 = .ok (.iaload, 1) := by decide +kernel
theorem dX4_wish_91 : decode cX4_wish 91 = .ok (.iconst 1, 1) := by decide +kernel
theorem dX4_wish_92 : decode cX4_wish 92 = .ok (.isub, 1) := by decide +kernel
theorem dX4_wish_93 : decode cX4_wish 93 = .ok (.ireturn, 1) := by decide +kernel
theorem dX4_dropWish_0 : decode cX4_dropWish 0 = .ok (.aload_n 0, 1) := by decide +kernel
theorem dX4_dropWish_1 : decode cX4_dropWish 1 = .ok (.iload_n 1, 1) := by decide +kernel
theorem dX4_dropWish_2 : decode cX4_dropWish 2 = .ok (.iload_n 2, 1) := by decide +kernel
theorem dX4_dropWish_3 : decode cX4_dropWish 3 = .ok (.invokevirtual 129, 3) := by decide +kernel
theorem dX4_dropWish_6 : decode cX4_dropWish 6 = .ok (.ifCond .ne 5, 3) := by decide +kernel
theorem dX4_dropWish_9 : decode cX4_dropWish 9 = .ok (.iconst 0, 1) := by decide +kernel
theorem dX4_dropWish_10 : decode cX4_dropWish 10 = .ok (.ireturn, 1) := by decide +kernel
theorem dX4_dropWish_11 : decode cX4_dropWish 11 = .ok (.aload_n 0, 1) := by decide +kernel
theorem dX4_dropWish_12 : decode cX4_dropWish 12 = .ok (.iload_n 1, 1) := by decide +kernel
theorem dX4_dropWish_13 : decode cX4_dropWish 13 = .ok (.iload_n 2, 1) := by decide +kernel
theorem dX4_dropWish_14 : decode cX4_dropWish 14 = .ok (.invokevirtual 105, 3) := by decide +kernel
theorem dX4_dropWish_17 : decode cX4_dropWish 17 = .ok (.ifCond .ge 10, 3) := by decide +kernel
theorem dX4_dropWish_20 : decode cX4_dropWish 20 = .ok (.aload_n 0, 1) := by decide +kernel
theorem dX4_dropWish_21 : decode cX4_dropWish 21 = .ok (.iconst 2, 1) := by decide +kernel
theorem dX4_dropWish_22 : decode cX4_dropWish 22 = .ok (.putfield 68, 3) := by decide +kernel
theorem dX4_dropWish_25 : decode cX4_dropWish 25 = .ok (.iconst 0, 1) := by decide +kernel
theorem dX4_dropWish_26 : decode cX4_dropWish 26 = .ok (.ireturn, 1) := by decide +kernel
theorem dX4_dropWish_27 : decode cX4_dropWish 27 = .ok (.aload_n 0, 1) := by decide +kernel
theorem dX4_dropWish_28 : decode cX4_dropWish 28 = .ok (.iload_n 1, 1) := by decide +kernel
theorem dX4_dropWish_29 : decode cX4_dropWish 29 = .ok (.iload_n 2, 1) := by decide +kernel
theorem dX4_dropWish_30 : decode cX4_dropWish 30 = .ok (.invokevirtual 108, 3) := by decide +kernel
theorem dX4_dropWish_33 : decode cX4_dropWish 33 = .ok (.aload_n 0, 1) := by decide +kernel
theorem dX4_dropWish_34 : decode cX4_dropWish 34 = .ok (.getfield 34, 3) := by decide +kernel
theorem dX4_dropWish_37 : decode cX4_dropWish 37 = .ok (.iload_n 1, 1) := by decide +kernel
theorem dX4_dropWish_38 : decode cX4_dropWish 38 = .ok (.iaload, 1) := by decide +kernel
theorem dX4_dropWish_39 : decode cX4_dropWish 39 = .ok (.ireturn, 1) := by decide +kernel
theorem dX4_wishes_0 : decode cX4_wishes 0 = .ok (.aload_n 0, 1) := by decide +kernel
theorem dX4_wishes_1 : decode cX4_wishes 1 = .ok (.aload_n 0, 1) := by decide +kernel
theorem dX4_wishes_2 : decode cX4_wishes 2 = .ok (.iload_n 1, 1) := by decide +kernel
theorem dX4_wishes_3 : decode cX4_wishes 3 = .ok (.invokevirtual 77, 3) := by decide +kernel
theorem dX4_wishes_6 : decode cX4_wishes 6 = .ok (.ifCond .eq 7, 3) := by decide +kernel
theorem dX4_wishes_9 : decode cX4_wishes 9 = .ok (.iconst 0, 1) := by decide +kernel
theorem dX4_wishes_10 : decode cX4_wishes 10 = .ok (.goto 4, 3) := by decide +kernel
theorem dX4_wishes_13 : decode cX4_wishes 13 = .ok (.iconst 1, 1) := by decide +kernel
theorem dX4_wishes_14 : decode cX4_wishes 14 = .ok (.putfield 68, 3) := by decide +kernel
theorem dX4_wishes_17 : decode cX4_wishes 17 = .ok (.aload_n 0, 1) := by decide +kernel
theorem dX4_wishes_18 : decode cX4_wishes 18 = .ok (.getfield 68, 3) := by decide +kernel
theorem dX4_wishes_21 : decode cX4_wishes 21 = .ok (.ifCond .ne 12, 3) := by decide +kernel
theorem dX4_wishes_24 : decode cX4_wishes 24 = .ok (.aload_n 0, 1) := by decide +kernel
theorem dX4_wishes_25 : decode cX4_wishes 25 = .ok (.getfield 34, 3) := by decide +kernel
theorem dX4_wishes_28 : decode cX4_wishes 28 = .ok (.iload_n 1, 1) := by decide +kernel
theorem dX4_wishes_29 : decode cX4_wishes 29 = .ok (.iaload, 1) := by decide +kernel
theorem dX4_wishes_30 : decode cX4_wishes 30 = .ok (.goto 4, 3) := by decide +kernel
theorem dX4_wishes_33 : decode cX4_wishes 33 = .ok (.iconst 0, 1) := by decide +kernel
theorem dX4_wishes_34 : decode cX4_wishes 34 = .ok (.ireturn, 1) := by decide +kernel
theorem dX4_wishAt_0 : decode cX4_wishAt 0 = .ok (.aload_n 0, 1) := by decide +kernel
theorem dX4_wishAt_1 : decode cX4_wishAt 1 = .ok (.aload_n 0, 1) := by decide +kernel
theorem dX4_wishAt_2 : decode cX4_wishAt 2 = .ok (.iload_n 1, 1) := by decide +kernel
theorem dX4_wishAt_3 : decode cX4_wishAt 3 = .ok (.invokevirtual 77, 3) := by decide +kernel
theorem dX4_wishAt_6 : decode cX4_wishAt 6 = .ok (.ifCond .eq 21, 3) := by decide +kernel
theorem dX4_wishAt_9 : decode cX4_wishAt 9 = .ok (.iload_n 2, 1) := by decide +kernel
theorem dX4_wishAt_10 : decode cX4_wishAt 10 = .ok (.ifCond .lt 17, 3) := by decide +kernel
theorem dX4_wishAt_13 : decode cX4_wishAt 13 = .ok (.iload_n 2, 1) := by decide +kernel
theorem dX4_wishAt_14 : decode cX4_wishAt 14 = .ok (.aload_n 0, 1) := by decide +kernel
theorem dX4_wishAt_15 : decode cX4_wishAt 15 = .ok (.getfield 34, 3) := by decide +kernel
theorem dX4_wishAt_18 : decode cX4_wishAt 18 = .ok (.iload_n 1, 1) := by decide +kernel
theorem dX4_wishAt_19 : decode cX4_wishAt 19 = .ok (.iaload, 1) := by decide +kernel
theorem dX4_wishAt_20 : decode cX4_wishAt 20 = .ok (.if_icmp .ge 7, 3) := by decide +kernel
theorem dX4_wishAt_23 : decode cX4_wishAt 23 = .ok (.iconst 0, 1) := by decide +kernel
theorem dX4_wishAt_24 : decode cX4_wishAt 24 = .ok (.goto 4, 3) := by decide +kernel
theorem dX4_wishAt_27 : decode cX4_wishAt 27 = .ok (.iconst 1, 1) := by decide +kernel
theorem dX4_wishAt_28 : decode cX4_wishAt 28 = .ok (.putfield 68, 3) := by decide +kernel
theorem dX4_wishAt_31 : decode cX4_wishAt 31 = .ok (.aload_n 0, 1) := by decide +kernel
theorem dX4_wishAt_32 : decode cX4_wishAt 32 = .ok (.getfield 68, 3) := by decide +kernel
theorem dX4_wishAt_35 : decode cX4_wishAt 35 = .ok (.ifCond .ne 17, 3) := by decide +kernel
theorem dX4_wishAt_38 : decode cX4_wishAt 38 = .ok (.aload_n 0, 1) := by decide +kernel
theorem dX4_wishAt_39 : decode cX4_wishAt 39 = .ok (.getfield 37, 3) := by decide +kernel
theorem dX4_wishAt_42 : decode cX4_wishAt 42 = .ok (.bipush 6, 2) := by decide +kernel
theorem dX4_wishAt_44 : decode cX4_wishAt 44 = .ok (.iload_n 1, 1) := by decide +kernel
theorem dX4_wishAt_45 : decode cX4_wishAt 45 = .ok (.imul, 1) := by decide +kernel
theorem dX4_wishAt_46 : decode cX4_wishAt 46 = .ok (.iload_n 2, 1) := by decide +kernel
theorem dX4_wishAt_47 : decode cX4_wishAt 47 = .ok (.iadd, 1) := by decide +kernel
theorem dX4_wishAt_48 : decode cX4_wishAt 48 = .ok (.iaload, 1) := by decide +kernel
theorem dX4_wishAt_49 : decode cX4_wishAt 49 = .ok (.goto 4, 3) := by decide +kernel
theorem dX4_wishAt_52 : decode cX4_wishAt 52 = .ok (.iconst 0, 1) := by decide +kernel
theorem dX4_wishAt_53 : decode cX4_wishAt 53 = .ok (.ireturn, 1) := by decide +kernel
theorem dX4_request_0 : decode cX4_request 0 = .ok (.aload_n 0, 1) := by decide +kernel
theorem dX4_request_1 : decode cX4_request 1 = .ok (.iload_n 1, 1) := by decide +kernel
theorem dX4_request_2 : decode cX4_request 2 = .ok (.iload_n 2, 1) := by decide +kernel
theorem dX4_request_3 : decode cX4_request 3 = .ok (.invokevirtual 129, 3) := by decide +kernel
theorem dX4_request_6 : decode cX4_request 6 = .ok (.ifCond .ne 5, 3) := by decide +kernel
theorem dX4_request_9 : decode cX4_request 9 = .ok (.iconst 0, 1) := by decide +kernel
theorem dX4_request_10 : decode cX4_request 10 = .ok (.ireturn, 1) := by decide +kernel
theorem dX4_request_11 : decode cX4_request 11 = .ok (.aload_n 0, 1) := by decide +kernel
theorem dX4_request_12 : decode cX4_request 12 = .ok (.iload_n 1, 1) := by decide +kernel
theorem dX4_request_13 : decode cX4_request 13 = .ok (.iload_n 2, 1) := by decide +kernel
theorem dX4_request_14 : decode cX4_request 14 = .ok (.aload_n 0, 1) := by decide +kernel
theorem dX4_request_15 : decode cX4_request 15 = .ok (.getfield 31, 3) := by decide +kernel
theorem dX4_request_18 : decode cX4_request 18 = .ok (.iload_n 1, 1) := by decide +kernel
theorem dX4_request_19 : decode cX4_request 19 = .ok (.iaload, 1) := by decide +kernel
theorem dX4_request_20 : decode cX4_request 20 = .ok (.invokevirtual 118, 3) := by decide +kernel
theorem dX4_request_23 : decode cX4_request 23 = .ok (.ifCond .ne 12, 3) := by decide +kernel
theorem dX4_request_26 : decode cX4_request 26 = .ok (.aload_n 0, 1) := by decide +kernel
theorem dX4_request_27 : decode cX4_request 27 = .ok (.iload_n 1, 1) := by decide +kernel
theorem dX4_request_28 : decode cX4_request 28 = .ok (.iload_n 2, 1) := by decide +kernel
theorem dX4_request_29 : decode cX4_request 29 = .ok (.invokevirtual 101, 3) := by decide +kernel
theorem dX4_request_32 : decode cX4_request 32 = .ok (.ifCond .lt 10, 3) := by decide +kernel
theorem dX4_request_35 : decode cX4_request 35 = .ok (.aload_n 0, 1) := by decide +kernel
theorem dX4_request_36 : decode cX4_request 36 = .ok (.iconst 2, 1) := by decide +kernel
theorem dX4_request_37 : decode cX4_request 37 = .ok (.putfield 68, 3) := by decide +kernel
theorem dX4_request_40 : decode cX4_request 40 = .ok (.iconst 0, 1) := by decide +kernel
theorem dX4_request_41 : decode cX4_request 41 = .ok (.ireturn, 1) := by decide +kernel
theorem dX4_request_42 : decode cX4_request 42 = .ok (.aload_n 0, 1) := by decide +kernel
theorem dX4_request_43 : decode cX4_request 43 = .ok (.iload_n 2, 1) := by decide +kernel
theorem dX4_request_44 : decode cX4_request 44 = .ok (.invokevirtual 115, 3) := by decide +kernel
theorem dX4_request_47 : decode cX4_request 47 = .ok (.ifCond .le 15, 3) := by decide +kernel
theorem dX4_request_50 : decode cX4_request 50 = .ok (.aload_n 0, 1) := by decide +kernel
theorem dX4_request_51 : decode cX4_request 51 = .ok (.iload_n 1, 1) := by decide +kernel
theorem dX4_request_52 : decode cX4_request 52 = .ok (.iload_n 2, 1) := by decide +kernel
theorem dX4_request_53 : decode cX4_request 53 = .ok (.invokevirtual 132, 3) := by decide +kernel
theorem dX4_request_56 : decode cX4_request 56 = .ok (.aload_n 0, 1) := by decide +kernel
theorem dX4_request_57 : decode cX4_request 57 = .ok (.invokevirtual 123, 3) := by decide +kernel
theorem dX4_request_60 : decode cX4_request 60 = .ok (.iconst 0, 1) := by decide +kernel
theorem dX4_request_61 : decode cX4_request 61 = .ok (.ireturn, 1) := by decide +kernel
theorem dX4_request_62 : decode cX4_request 62 = .ok (.aload_n 0, 1) := by decide +kernel
theorem dX4_request_63 : decode cX4_request 63 = .ok (.getfield 49, 3) := by decide +kernel
theorem dX4_request_66 : decode cX4_request 66 = .ok (.bipush 16, 2) := by decide +kernel
theorem dX4_request_68 : decode cX4_request 68 = .ok (.iload_n 2, 1) := by decide +kernel
theorem dX4_request_69 : decode cX4_request 69 = .ok (.imul, 1) := by decide +kernel
theorem dX4_request_70 : decode cX4_request 70 = .ok (.aload_n 0, 1) := by decide +kernel
theorem dX4_request_71 : decode cX4_request 71 = .ok (.getfield 46, 3) := by decide +kernel
theorem dX4_request_74 : decode cX4_request 74 = .ok (.iload_n 2, 1) := by decide +kernel
theorem dX4_request_75 : decode cX4_request 75 = .ok (.iaload, 1) := by decide +kernel
theorem dX4_request_76 : decode cX4_request 76 = .ok (.iadd, 1) := by decide +kernel
theorem dX4_request_77 : decode cX4_request 77 = .ok (.iload_n 1, 1) := by decide +kernel
theorem dX4_request_78 : decode cX4_request 78 = .ok (.iastore, 1) := by decide +kernel
theorem dX4_request_79 : decode cX4_request 79 = .ok (.aload_n 0, 1) := by decide +kernel
theorem dX4_request_80 : decode cX4_request 80 = .ok (.getfield 46, 3) := by decide +kernel
theorem dX4_request_83 : decode cX4_request 83 = .ok (.iload_n 2, 1) := by decide +kernel
theorem dX4_request_84 : decode cX4_request 84 = .ok (.dup2, 1) := by decide +kernel
theorem dX4_request_85 : decode cX4_request 85 = .ok (.iaload, 1) := by decide +kernel
theorem dX4_request_86 : decode cX4_request 86 = .ok (.iconst 1, 1) := by decide +kernel
theorem dX4_request_87 : decode cX4_request 87 = .ok (.iadd, 1) := by decide +kernel
theorem dX4_request_88 : decode cX4_request 88 = .ok (.iastore, 1) := by decide +kernel
theorem dX4_request_89 : decode cX4_request 89 = .ok (.aload_n 0, 1) := by decide +kernel
theorem dX4_request_90 : decode cX4_request 90 = .ok (.invokevirtual 123, 3) := by decide +kernel
theorem dX4_request_93 : decode cX4_request 93 = .ok (.aload_n 0, 1) := by decide +kernel
theorem dX4_request_94 : decode cX4_request 94 = .ok (.getfield 46, 3) := by decide +kernel
theorem dX4_request_97 : decode cX4_request 97 = .ok (.iload_n 2, 1) := by decide +kernel
theorem dX4_request_98 : decode cX4_request 98 = .ok (.iaload, 1) := by decide +kernel
theorem dX4_request_99 : decode cX4_request 99 = .ok (.ireturn, 1) := by decide +kernel
theorem dX4_drop_0 : decode cX4_drop 0 = .ok (.aload_n 0, 1) := by decide +kernel
theorem dX4_drop_1 : decode cX4_drop 1 = .ok (.iload_n 1, 1) := by decide +kernel
theorem dX4_drop_2 : decode cX4_drop 2 = .ok (.iload_n 2, 1) := by decide +kernel
theorem dX4_drop_3 : decode cX4_drop 3 = .ok (.invokevirtual 129, 3) := by decide +kernel
theorem dX4_drop_6 : decode cX4_drop 6 = .ok (.ifCond .ne 5, 3) := by decide +kernel
theorem dX4_drop_9 : decode cX4_drop 9 = .ok (.iconst 0, 1) := by decide +kernel
theorem dX4_drop_10 : decode cX4_drop 10 = .ok (.ireturn, 1) := by decide +kernel
theorem dX4_drop_11 : decode cX4_drop 11 = .ok (.aload_n 0, 1) := by decide +kernel
theorem dX4_drop_12 : decode cX4_drop 12 = .ok (.getfield 31, 3) := by decide +kernel
theorem dX4_drop_15 : decode cX4_drop 15 = .ok (.iload_n 1, 1) := by decide +kernel
theorem dX4_drop_16 : decode cX4_drop 16 = .ok (.iaload, 1) := by decide +kernel
theorem dX4_drop_17 : decode cX4_drop 17 = .ok (.iload_n 2, 1) := by decide +kernel
theorem dX4_drop_18 : decode cX4_drop 18 = .ok (.invokestatic 84, 3) := by decide +kernel
theorem dX4_drop_21 : decode cX4_drop 21 = .ok (.ifCond .ne 10, 3) := by decide +kernel
theorem dX4_drop_24 : decode cX4_drop 24 = .ok (.aload_n 0, 1) := by decide +kernel
theorem dX4_drop_25 : decode cX4_drop 25 = .ok (.iconst 2, 1) := by decide +kernel
theorem dX4_drop_26 : decode cX4_drop 26 = .ok (.putfield 68, 3) := by decide +kernel
theorem dX4_drop_29 : decode cX4_drop 29 = .ok (.iconst 0, 1) := by decide +kernel
theorem dX4_drop_30 : decode cX4_drop 30 = .ok (.ireturn, 1) := by decide +kernel
theorem dX4_drop_31 : decode cX4_drop 31 = .ok (.aload_n 0, 1) := by decide +kernel
theorem dX4_drop_32 : decode cX4_drop 32 = .ok (.iload_n 1, 1) := by decide +kernel
theorem dX4_drop_33 : decode cX4_drop 33 = .ok (.iload_n 2, 1) := by decide +kernel
theorem dX4_drop_34 : decode cX4_drop 34 = .ok (.invokevirtual 135, 3) := by decide +kernel
theorem dX4_drop_37 : decode cX4_drop 37 = .ok (.aload_n 0, 1) := by decide +kernel
theorem dX4_drop_38 : decode cX4_drop 38 = .ok (.invokevirtual 123, 3) := by decide +kernel
theorem dX4_drop_41 : decode cX4_drop 41 = .ok (.aload_n 0, 1) := by decide +kernel
theorem dX4_drop_42 : decode cX4_drop 42 = .ok (.aload_n 0, 1) := by decide +kernel
theorem dX4_drop_43 : decode cX4_drop 43 = .ok (.getfield 31, 3) := by decide +kernel
theorem dX4_drop_46 : decode cX4_drop 46 = .ok (.iload_n 1, 1) := by decide +kernel
theorem dX4_drop_47 : decode cX4_drop 47 = .ok (.iaload, 1) := by decide +kernel
theorem dX4_drop_48 : decode cX4_drop 48 = .ok (.invokevirtual 92, 3) := by decide +kernel
theorem dX4_drop_51 : decode cX4_drop 51 = .ok (.ireturn, 1) := by decide +kernel
theorem dX4_change_0 : decode cX4_change 0 = .ok (.aload_n 0, 1) := by decide +kernel
theorem dX4_change_1 : decode cX4_change 1 = .ok (.aload_n 0, 1) := by decide +kernel
theorem dX4_change_2 : decode cX4_change 2 = .ok (.iload_n 1, 1) := by decide +kernel
theorem dX4_change_3 : decode cX4_change 3 = .ok (.invokevirtual 77, 3) := by decide +kernel
theorem dX4_change_6 : decode cX4_change 6 = .ok (.ifCond .eq 23, 3) := by decide +kernel
theorem dX4_change_9 : decode cX4_change 9 = .ok (.aload_n 0, 1) := by decide +kernel
theorem dX4_change_10 : decode cX4_change 10 = .ok (.iload_n 2, 1) := by decide +kernel
theorem dX4_change_11 : decode cX4_change 11 = .ok (.invokevirtual 81, 3) := by decide +kernel
theorem dX4_change_14 : decode cX4_change 14 = .ok (.ifCond .eq 15, 3) := by decide +kernel
theorem dX4_change_17 : decode cX4_change 17 = .ok (.aload_n 0, 1) := by decide +kernel
theorem dX4_change_18 : decode cX4_change 18 = .ok (.iload_n 3, 1) := by decide +kernel
theorem dX4_change_19 : decode cX4_change 19 = .ok (.invokevirtual 81, 3) := by decide +kernel
theorem dX4_change_22 : decode cX4_change 22 = .ok (.ifCond .eq 7, 3) := by decide +kernel
theorem dX4_change_25 : decode cX4_change 25 = .ok (.iconst 0, 1) := by decide +kernel
theorem dX4_change_26 : decode cX4_change 26 = .ok (.goto 4, 3) := by decide +kernel
theorem dX4_change_29 : decode cX4_change 29 = .ok (.iconst 1, 1) := by decide +kernel
theorem dX4_change_30 : decode cX4_change 30 = .ok (.putfield 68, 3) := by decide +kernel
theorem dX4_change_33 : decode cX4_change 33 = .ok (.aload_n 0, 1) := by decide +kernel
theorem dX4_change_34 : decode cX4_change 34 = .ok (.getfield 68, 3) := by decide +kernel
theorem dX4_change_37 : decode cX4_change 37 = .ok (.ifCond .le 5, 3) := by decide +kernel
theorem dX4_change_40 : decode cX4_change 40 = .ok (.iconst 0, 1) := by decide +kernel
theorem dX4_change_41 : decode cX4_change 41 = .ok (.ireturn, 1) := by decide +kernel
theorem dX4_change_42 : decode cX4_change 42 = .ok (.aload_n 0, 1) := by decide +kernel
theorem dX4_change_43 : decode cX4_change 43 = .ok (.getfield 31, 3) := by decide +kernel
theorem dX4_change_46 : decode cX4_change 46 = .ok (.iload_n 1, 1) := by decide +kernel
theorem dX4_change_47 : decode cX4_change 47 = .ok (.iaload, 1) := by decide +kernel
theorem dX4_change_48 : decode cX4_change 48 = .ok (.iload_n 2, 1) := by decide +kernel
theorem dX4_change_49 : decode cX4_change 49 = .ok (.invokestatic 84, 3) := by decide +kernel
theorem dX4_change_52 : decode cX4_change 52 = .ok (.ifCond .eq 37, 3) := by decide +kernel
theorem dX4_change_55 : decode cX4_change 55 = .ok (.iload_n 2, 1) := by decide +kernel
theorem dX4_change_56 : decode cX4_change 56 = .ok (.iload_n 3, 1) := by decide +kernel
theorem dX4_change_57 : decode cX4_change 57 = .ok (.if_icmp .eq 32, 3) := by decide +kernel
theorem dX4_change_60 : decode cX4_change 60 = .ok (.aload_n 0, 1) := by decide +kernel
theorem dX4_change_61 : decode cX4_change 61 = .ok (.iload_n 1, 1) := by decide +kernel
theorem dX4_change_62 : decode cX4_change 62 = .ok (.iload_n 3, 1) := by decide +kernel
theorem dX4_change_63 : decode cX4_change 63 = .ok (.aload_n 0, 1) := by decide +kernel
theorem dX4_change_64 : decode cX4_change 64 = .ok (.getfield 31, 3) := by decide +kernel
theorem dX4_change_67 : decode cX4_change 67 = .ok (.iload_n 1, 1) := by decide +kernel
theorem dX4_change_68 : decode cX4_change 68 = .ok (.iaload, 1) := by decide +kernel
theorem dX4_change_69 : decode cX4_change 69 = .ok (.iconst 1, 1) := by decide +kernel
theorem dX4_change_70 : decode cX4_change 70 = .ok (.iload_n 2, 1) := by decide +kernel
theorem dX4_change_71 : decode cX4_change 71 = .ok (.ishl, 1) := by decide +kernel
theorem dX4_change_72 : decode cX4_change 72 = .ok (.iconst (-1), 1) := by decide +kernel
theorem dX4_change_73 : decode cX4_change 73 = .ok (.ixor, 1) := by decide +kernel
theorem dX4_change_74 : decode cX4_change 74 = .ok (.iand, 1) := by decide +kernel
theorem dX4_change_75 : decode cX4_change 75 = .ok (.invokevirtual 118, 3) := by decide +kernel
theorem dX4_change_78 : decode cX4_change 78 = .ok (.ifCond .ne 11, 3) := by decide +kernel
theorem dX4_change_81 : decode cX4_change 81 = .ok (.aload_n 0, 1) := by decide +kernel
theorem dX4_change_82 : decode cX4_change 82 = .ok (.iload_n 3, 1) := by decide +kernel
theorem dX4_change_83 : decode cX4_change 83 = .ok (.invokevirtual 115, 3) := by decide +kernel
theorem dX4_change_86 : decode cX4_change 86 = .ok (.ifCond .ne 10, 3) := by decide +kernel
theorem dX4_change_89 : decode cX4_change 89 = .ok (.aload_n 0, 1) := by decide +kernel
theorem dX4_change_90 : decode cX4_change 90 = .ok (.iconst 2, 1) := by decide +kernel
theorem dX4_change_91 : decode cX4_change 91 = .ok (.putfield 68, 3) := by decide +kernel
theorem dX4_change_94 : decode cX4_change 94 = .ok (.iconst 0, 1) := by decide +kernel
theorem dX4_change_95 : decode cX4_change 95 = .ok (.ireturn, 1) := by decide +kernel
theorem dX4_change_96 : decode cX4_change 96 = .ok (.aload_n 0, 1) := by decide +kernel
theorem dX4_change_97 : decode cX4_change 97 = .ok (.iload_n 1, 1) := by decide +kernel
theorem dX4_change_98 : decode cX4_change 98 = .ok (.iload_n 2, 1) := by decide +kernel
theorem dX4_change_99 : decode cX4_change 99 = .ok (.invokevirtual 135, 3) := by decide +kernel
theorem dX4_change_102 : decode cX4_change 102 = .ok (.aload_n 0, 1) := by decide +kernel
theorem dX4_change_103 : decode cX4_change 103 = .ok (.iload_n 1, 1) := by decide +kernel
theorem dX4_change_104 : decode cX4_change 104 = .ok (.iload_n 3, 1) := by decide +kernel
theorem dX4_change_105 : decode cX4_change 105 = .ok (.invokevirtual 132, 3) := by decide +kernel
theorem dX4_change_108 : decode cX4_change 108 = .ok (.aload_n 0, 1) := by decide +kernel
theorem dX4_change_109 : decode cX4_change 109 = .ok (.invokevirtual 123, 3) := by decide +kernel
theorem dX4_change_112 : decode cX4_change 112 = .ok (.aload_n 0, 1) := by decide +kernel
theorem dX4_change_113 : decode cX4_change 113 = .ok (.aload_n 0, 1) := by decide +kernel
theorem dX4_change_114 : decode cX4_change 114 = .ok (.getfield 31, 3) := by decide +kernel
theorem dX4_change_117 : decode cX4_change 117 = .ok (.iload_n 1, 1) := by decide +kernel
theorem dX4_change_118 : decode cX4_change 118 = .ok (.iaload, 1) := by decide +kernel
theorem dX4_change_119 : decode cX4_change 119 = .ok (.invokevirtual 92, 3) := by decide +kernel
theorem dX4_change_122 : decode cX4_change 122 = .ok (.ireturn, 1) := by decide +kernel
theorem dX4_accept_0 : decode cX4_accept 0 = .ok (.aload_n 0, 1) := by decide +kernel
theorem dX4_accept_1 : decode cX4_accept 1 = .ok (.iload_n 1, 1) := by decide +kernel
theorem dX4_accept_2 : decode cX4_accept 2 = .ok (.iload_n 2, 1) := by decide +kernel
theorem dX4_accept_3 : decode cX4_accept 3 = .ok (.invokevirtual 129, 3) := by decide +kernel
theorem dX4_accept_6 : decode cX4_accept 6 = .ok (.ifCond .ne 5, 3) := by decide +kernel
theorem dX4_accept_9 : decode cX4_accept 9 = .ok (.iconst 0, 1) := by decide +kernel
theorem dX4_accept_10 : decode cX4_accept 10 = .ok (.ireturn, 1) := by decide +kernel
theorem dX4_accept_11 : decode cX4_accept 11 = .ok (.aload_n 0, 1) := by decide +kernel
theorem dX4_accept_12 : decode cX4_accept 12 = .ok (.iload_n 1, 1) := by decide +kernel
theorem dX4_accept_13 : decode cX4_accept 13 = .ok (.iload_n 2, 1) := by decide +kernel
theorem dX4_accept_14 : decode cX4_accept 14 = .ok (.invokevirtual 98, 3) := by decide +kernel
theorem dX4_accept_17 : decode cX4_accept 17 = .ok (.ifCond .eq 18, 3) := by decide +kernel
theorem dX4_accept_20 : decode cX4_accept 20 = .ok (.aload_n 0, 1) := by decide +kernel
theorem dX4_accept_21 : decode cX4_accept 21 = .ok (.iload_n 1, 1) := by decide +kernel
theorem dX4_accept_22 : decode cX4_accept 22 = .ok (.iload_n 2, 1) := by decide +kernel
theorem dX4_accept_23 : decode cX4_accept 23 = .ok (.aload_n 0, 1) := by decide +kernel
theorem dX4_accept_24 : decode cX4_accept 24 = .ok (.getfield 31, 3) := by decide +kernel
theorem dX4_accept_27 : decode cX4_accept 27 = .ok (.iload_n 1, 1) := by decide +kernel
theorem dX4_accept_28 : decode cX4_accept 28 = .ok (.iaload, 1) := by decide +kernel
theorem dX4_accept_29 : decode cX4_accept 29 = .ok (.invokevirtual 118, 3) := by decide +kernel
theorem dX4_accept_32 : decode cX4_accept 32 = .ok (.ifCond .eq 10, 3) := by decide +kernel
theorem dX4_accept_35 : decode cX4_accept 35 = .ok (.aload_n 0, 1) := by decide +kernel
theorem dX4_accept_36 : decode cX4_accept 36 = .ok (.iconst 2, 1) := by decide +kernel
theorem dX4_accept_37 : decode cX4_accept 37 = .ok (.putfield 68, 3) := by decide +kernel
theorem dX4_accept_40 : decode cX4_accept 40 = .ok (.iconst 0, 1) := by decide +kernel
theorem dX4_accept_41 : decode cX4_accept 41 = .ok (.ireturn, 1) := by decide +kernel
theorem dX4_accept_42 : decode cX4_accept 42 = .ok (.aload_n 0, 1) := by decide +kernel
theorem dX4_accept_43 : decode cX4_accept 43 = .ok (.iload_n 1, 1) := by decide +kernel
theorem dX4_accept_44 : decode cX4_accept 44 = .ok (.iload_n 2, 1) := by decide +kernel
theorem dX4_accept_45 : decode cX4_accept 45 = .ok (.invokevirtual 132, 3) := by decide +kernel
theorem dX4_accept_48 : decode cX4_accept 48 = .ok (.aload_n 0, 1) := by decide +kernel
theorem dX4_accept_49 : decode cX4_accept 49 = .ok (.invokevirtual 123, 3) := by decide +kernel
theorem dX4_accept_52 : decode cX4_accept 52 = .ok (.aload_n 0, 1) := by decide +kernel
theorem dX4_accept_53 : decode cX4_accept 53 = .ok (.aload_n 0, 1) := by decide +kernel
theorem dX4_accept_54 : decode cX4_accept 54 = .ok (.getfield 31, 3) := by decide +kernel
theorem dX4_accept_57 : decode cX4_accept 57 = .ok (.iload_n 1, 1) := by decide +kernel
theorem dX4_accept_58 : decode cX4_accept 58 = .ok (.iaload, 1) := by decide +kernel
theorem dX4_accept_59 : decode cX4_accept 59 = .ok (.invokevirtual 92, 3) := by decide +kernel
theorem dX4_accept_62 : decode cX4_accept 62 = .ok (.ireturn, 1) := by decide +kernel
theorem dX4_leave_0 : decode cX4_leave 0 = .ok (.aload_n 0, 1) := by decide +kernel
theorem dX4_leave_1 : decode cX4_leave 1 = .ok (.iload_n 1, 1) := by decide +kernel
theorem dX4_leave_2 : decode cX4_leave 2 = .ok (.iload_n 2, 1) := by decide +kernel
theorem dX4_leave_3 : decode cX4_leave 3 = .ok (.invokevirtual 129, 3) := by decide +kernel
theorem dX4_leave_6 : decode cX4_leave 6 = .ok (.ifCond .ne 5, 3) := by decide +kernel
theorem dX4_leave_9 : decode cX4_leave 9 = .ok (.iconst 0, 1) := by decide +kernel
theorem dX4_leave_10 : decode cX4_leave 10 = .ok (.ireturn, 1) := by decide +kernel
theorem dX4_leave_11 : decode cX4_leave 11 = .ok (.aload_n 0, 1) := by decide +kernel
theorem dX4_leave_12 : decode cX4_leave 12 = .ok (.iload_n 1, 1) := by decide +kernel
theorem dX4_leave_13 : decode cX4_leave 13 = .ok (.iload_n 2, 1) := by decide +kernel
theorem dX4_leave_14 : decode cX4_leave 14 = .ok (.invokevirtual 101, 3) := by decide +kernel
theorem dX4_leave_17 : decode cX4_leave 17 = .ok (.ifCond .ge 10, 3) := by decide +kernel
theorem dX4_leave_20 : decode cX4_leave 20 = .ok (.aload_n 0, 1) := by decide +kernel
theorem dX4_leave_21 : decode cX4_leave 21 = .ok (.iconst 2, 1) := by decide +kernel
theorem dX4_leave_22 : decode cX4_leave 22 = .ok (.putfield 68, 3) := by decide +kernel
theorem dX4_leave_25 : decode cX4_leave 25 = .ok (.iconst 0, 1) := by decide +kernel
theorem dX4_leave_26 : decode cX4_leave 26 = .ok (.ireturn, 1) := by decide +kernel
theorem dX4_leave_27 : decode cX4_leave 27 = .ok (.aload_n 0, 1) := by decide +kernel
theorem dX4_leave_28 : decode cX4_leave 28 = .ok (.iload_n 1, 1) := by decide +kernel
theorem dX4_leave_29 : decode cX4_leave 29 = .ok (.iload_n 2, 1) := by decide +kernel
theorem dX4_leave_30 : decode cX4_leave 30 = .ok (.invokevirtual 98, 3) := by decide +kernel
theorem dX4_leave_33 : decode cX4_leave 33 = .ok (.istore_n 3, 1) := by decide +kernel
theorem dX4_leave_34 : decode cX4_leave 34 = .ok (.aload_n 0, 1) := by decide +kernel
theorem dX4_leave_35 : decode cX4_leave 35 = .ok (.iload_n 1, 1) := by decide +kernel
theorem dX4_leave_36 : decode cX4_leave 36 = .ok (.iload_n 2, 1) := by decide +kernel
theorem dX4_leave_37 : decode cX4_leave 37 = .ok (.invokevirtual 112, 3) := by decide +kernel
theorem dX4_leave_40 : decode cX4_leave 40 = .ok (.aload_n 0, 1) := by decide +kernel
theorem dX4_leave_41 : decode cX4_leave 41 = .ok (.invokevirtual 123, 3) := by decide +kernel
theorem dX4_leave_44 : decode cX4_leave 44 = .ok (.iload_n 3, 1) := by decide +kernel
theorem dX4_leave_45 : decode cX4_leave 45 = .ok (.ireturn, 1) := by decide +kernel
theorem dX4_expires_0 : decode cX4_expires 0 = .ok (.iconst 0, 1) := by decide +kernel
theorem dX4_expires_1 : decode cX4_expires 1 = .ok (.istore_n 1, 1) := by decide +kernel
theorem dX4_expires_2 : decode cX4_expires 2 = .ok (.iconst 0, 1) := by decide +kernel
theorem dX4_expires_3 : decode cX4_expires 3 = .ok (.istore_n 2, 1) := by decide +kernel
theorem dX4_expires_4 : decode cX4_expires 4 = .ok (.iload_n 2, 1) := by decide +kernel
theorem dX4_expires_5 : decode cX4_expires 5 = .ok (.aload_n 0, 1) := by decide +kernel
theorem dX4_expires_6 : decode cX4_expires 6 = .ok (.getfield 71, 3) := by decide +kernel
theorem dX4_expires_9 : decode cX4_expires 9 = .ok (.if_icmp .ge 63, 3) := by decide +kernel
theorem dX4_expires_12 : decode cX4_expires 12 = .ok (.iconst 0, 1) := by decide +kernel
theorem dX4_expires_13 : decode cX4_expires 13 = .ok (.istore_n 3, 1) := by decide +kernel
theorem dX4_expires_14 : decode cX4_expires 14 = .ok (.iload_n 3, 1) := by decide +kernel
theorem dX4_expires_15 : decode cX4_expires 15 = .ok (.aload_n 0, 1) := by decide +kernel
theorem dX4_expires_16 : decode cX4_expires 16 = .ok (.getfield 74, 3) := by decide +kernel
theorem dX4_expires_19 : decode cX4_expires 19 = .ok (.if_icmp .ge 47, 3) := by decide +kernel
theorem dX4_expires_22 : decode cX4_expires 22 = .ok (.aload_n 0, 1) := by decide +kernel
theorem dX4_expires_23 : decode cX4_expires 23 = .ok (.iload_n 3, 1) := by decide +kernel
theorem dX4_expires_24 : decode cX4_expires 24 = .ok (.iload_n 2, 1) := by decide +kernel
theorem dX4_expires_25 : decode cX4_expires 25 = .ok (.invokevirtual 98, 3) := by decide +kernel
theorem dX4_expires_28 : decode cX4_expires 28 = .ok (.ifCond .eq 32, 3) := by decide +kernel
theorem dX4_expires_31 : decode cX4_expires 31 = .ok (.aload_n 0, 1) := by decide +kernel
theorem dX4_expires_32 : decode cX4_expires 32 = .ok (.getfield 52, 3) := by decide +kernel
theorem dX4_expires_35 : decode cX4_expires 35 = .ok (.bipush 16, 2) := by decide +kernel
theorem dX4_expires_37 : decode cX4_expires 37 = .ok (.iload_n 2, 1) := by decide +kernel
theorem dX4_expires_38 : decode cX4_expires 38 = .ok (.imul, 1) := by decide +kernel
theorem dX4_expires_39 : decode cX4_expires 39 = .ok (.iload_n 3, 1) := by decide +kernel
theorem dX4_expires_40 : decode cX4_expires 40 = .ok (.iadd, 1) := by decide +kernel
theorem dX4_expires_41 : decode cX4_expires 41 = .ok (.iaload, 1) := by decide +kernel
theorem dX4_expires_42 : decode cX4_expires 42 = .ok (.iconst 3, 1) := by decide +kernel
theorem dX4_expires_43 : decode cX4_expires 43 = .ok (.iadd, 1) := by decide +kernel
theorem dX4_expires_44 : decode cX4_expires 44 = .ok (.aload_n 0, 1) := by decide +kernel
theorem dX4_expires_45 : decode cX4_expires 45 = .ok (.getfield 64, 3) := by decide +kernel
theorem dX4_expires_48 : decode cX4_expires 48 = .ok (.if_icmp .ne 12, 3) := by decide +kernel
theorem dX4_expires_51 : decode cX4_expires 51 = .ok (.aload_n 0, 1) := by decide +kernel
theorem dX4_expires_52 : decode cX4_expires 52 = .ok (.iload_n 3, 1) := by decide +kernel
theorem dX4_expires_53 : decode cX4_expires 53 = .ok (.iload_n 2, 1) := by decide +kernel
theorem dX4_expires_54 : decode cX4_expires 54 = .ok (.invokevirtual 112, 3) := by decide +kernel
theorem dX4_expires_57 : decode cX4_expires 57 = .ok (.iinc 1 1, 3) := by decide +kernel
theorem dX4_expires_60 : decode cX4_expires 60 = .ok (.iinc 3 1, 3) := by decide +kernel
theorem dX4_expires_63 : decode cX4_expires 63 = .ok (.goto (-49), 3) := by decide +kernel
theorem dX4_expires_66 : decode cX4_expires 66 = .ok (.iinc 2 1, 3) := by decide +kernel
theorem dX4_expires_69 : decode cX4_expires 69 = .ok (.goto (-65), 3) := by decide +kernel
theorem dX4_expires_72 : decode cX4_expires 72 = .ok (.iload_n 1, 1) := by decide +kernel
theorem dX4_expires_73 : decode cX4_expires 73 = .ok (.ireturn, 1) := by decide +kernel
theorem dX4_advance_0 : decode cX4_advance 0 = .ok (.aload_n 0, 1) := by decide +kernel
theorem dX4_advance_1 : decode cX4_advance 1 = .ok (.iload_n 1, 1) := by decide +kernel
theorem dX4_advance_2 : decode cX4_advance 2 = .ok (.iconst 1, 1) := by decide +kernel
theorem dX4_advance_3 : decode cX4_advance 3 = .ok (.if_icmp .lt 9, 3) := by decide +kernel
theorem dX4_advance_6 : decode cX4_advance 6 = .ok (.iload_n 1, 1) := by decide +kernel
theorem dX4_advance_7 : decode cX4_advance 7 = .ok (.bipush 7, 2) := by decide +kernel
theorem dX4_advance_9 : decode cX4_advance 9 = .ok (.if_icmp .le 7, 3) := by decide +kernel
theorem dX4_advance_12 : decode cX4_advance 12 = .ok (.iconst 1, 1) := by decide +kernel
theorem dX4_advance_13 : decode cX4_advance 13 = .ok (.goto 4, 3) := by decide +kernel
theorem dX4_advance_16 : decode cX4_advance 16 = .ok (.iconst 0, 1) := by decide +kernel
theorem dX4_advance_17 : decode cX4_advance 17 = .ok (.putfield 68, 3) := by decide +kernel
theorem dX4_advance_20 : decode cX4_advance 20 = .ok (.iconst 0, 1) := by decide +kernel
theorem dX4_advance_21 : decode cX4_advance 21 = .ok (.istore_n 2, 1) := by decide +kernel
theorem dX4_advance_22 : decode cX4_advance 22 = .ok (.iconst 0, 1) := by decide +kernel
theorem dX4_advance_23 : decode cX4_advance 23 = .ok (.istore_n 3, 1) := by decide +kernel
theorem dX4_advance_24 : decode cX4_advance 24 = .ok (.iload_n 3, 1) := by decide +kernel
theorem dX4_advance_25 : decode cX4_advance 25 = .ok (.iload_n 1, 1) := by decide +kernel
theorem dX4_advance_26 : decode cX4_advance 26 = .ok (.if_icmp .ge 37, 3) := by decide +kernel
theorem dX4_advance_29 : decode cX4_advance 29 = .ok (.aload_n 0, 1) := by decide +kernel
theorem dX4_advance_30 : decode cX4_advance 30 = .ok (.getfield 68, 3) := by decide +kernel
theorem dX4_advance_33 : decode cX4_advance 33 = .ok (.ifCond .ne 30, 3) := by decide +kernel
theorem dX4_advance_36 : decode cX4_advance 36 = .ok (.aload_n 0, 1) := by decide +kernel
theorem dX4_advance_37 : decode cX4_advance 37 = .ok (.dup, 1) := by decide +kernel
theorem dX4_advance_38 : decode cX4_advance 38 = .ok (.getfield 64, 3) := by decide +kernel
theorem dX4_advance_41 : decode cX4_advance 41 = .ok (.iconst 1, 1) := by decide +kernel
theorem dX4_advance_42 : decode cX4_advance 42 = .ok (.iadd, 1) := by decide +kernel
theorem dX4_advance_43 : decode cX4_advance 43 = .ok (.putfield 64, 3) := by decide +kernel
theorem dX4_advance_46 : decode cX4_advance 46 = .ok (.iload_n 2, 1) := by decide +kernel
theorem dX4_advance_47 : decode cX4_advance 47 = .ok (.aload_n 0, 1) := by decide +kernel
theorem dX4_advance_48 : decode cX4_advance 48 = .ok (.invokevirtual 138, 3) := by decide +kernel
theorem dX4_advance_51 : decode cX4_advance 51 = .ok (.iadd, 1) := by decide +kernel
theorem dX4_advance_52 : decode cX4_advance 52 = .ok (.istore_n 2, 1) := by decide +kernel
theorem dX4_advance_53 : decode cX4_advance 53 = .ok (.aload_n 0, 1) := by decide +kernel
theorem dX4_advance_54 : decode cX4_advance 54 = .ok (.invokevirtual 123, 3) := by decide +kernel
theorem dX4_advance_57 : decode cX4_advance 57 = .ok (.iinc 3 1, 3) := by decide +kernel
theorem dX4_advance_60 : decode cX4_advance 60 = .ok (.goto (-36), 3) := by decide +kernel
theorem dX4_advance_63 : decode cX4_advance 63 = .ok (.iload_n 2, 1) := by decide +kernel
theorem dX4_advance_64 : decode cX4_advance 64 = .ok (.ireturn, 1) := by decide +kernel
theorem dX4_day_0 : decode cX4_day 0 = .ok (.aload_n 0, 1) := by decide +kernel
theorem dX4_day_1 : decode cX4_day 1 = .ok (.iconst 0, 1) := by decide +kernel
theorem dX4_day_2 : decode cX4_day 2 = .ok (.putfield 68, 3) := by decide +kernel
theorem dX4_day_5 : decode cX4_day 5 = .ok (.aload_n 0, 1) := by decide +kernel
theorem dX4_day_6 : decode cX4_day 6 = .ok (.getfield 64, 3) := by decide +kernel
theorem dX4_day_9 : decode cX4_day 9 = .ok (.ireturn, 1) := by decide +kernel
theorem dX4_waiting_0 : decode cX4_waiting 0 = .ok (.aload_n 0, 1) := by decide +kernel
theorem dX4_waiting_1 : decode cX4_waiting 1 = .ok (.aload_n 0, 1) := by decide +kernel
theorem dX4_waiting_2 : decode cX4_waiting 2 = .ok (.iload_n 1, 1) := by decide +kernel
theorem dX4_waiting_3 : decode cX4_waiting 3 = .ok (.invokevirtual 81, 3) := by decide +kernel
theorem dX4_waiting_6 : decode cX4_waiting 6 = .ok (.ifCond .eq 7, 3) := by decide +kernel
theorem dX4_waiting_9 : decode cX4_waiting 9 = .ok (.iconst 0, 1) := by decide +kernel
theorem dX4_waiting_10 : decode cX4_waiting 10 = .ok (.goto 4, 3) := by decide +kernel
theorem dX4_waiting_13 : decode cX4_waiting 13 = .ok (.iconst 1, 1) := by decide +kernel
theorem dX4_waiting_14 : decode cX4_waiting 14 = .ok (.putfield 68, 3) := by decide +kernel
theorem dX4_waiting_17 : decode cX4_waiting 17 = .ok (.aload_n 0, 1) := by decide +kernel
theorem dX4_waiting_18 : decode cX4_waiting 18 = .ok (.getfield 68, 3) := by decide +kernel
theorem dX4_waiting_21 : decode cX4_waiting 21 = .ok (.ifCond .ne 12, 3) := by decide +kernel
theorem dX4_waiting_24 : decode cX4_waiting 24 = .ok (.aload_n 0, 1) := by decide +kernel
theorem dX4_waiting_25 : decode cX4_waiting 25 = .ok (.getfield 46, 3) := by decide +kernel
theorem dX4_waiting_28 : decode cX4_waiting 28 = .ok (.iload_n 1, 1) := by decide +kernel
theorem dX4_waiting_29 : decode cX4_waiting 29 = .ok (.iaload, 1) := by decide +kernel
theorem dX4_waiting_30 : decode cX4_waiting 30 = .ok (.goto 4, 3) := by decide +kernel
theorem dX4_waiting_33 : decode cX4_waiting 33 = .ok (.iconst 0, 1) := by decide +kernel
theorem dX4_waiting_34 : decode cX4_waiting 34 = .ok (.ireturn, 1) := by decide +kernel
theorem dX4_waitingAt_0 : decode cX4_waitingAt 0 = .ok (.aload_n 0, 1) := by decide +kernel
theorem dX4_waitingAt_1 : decode cX4_waitingAt 1 = .ok (.aload_n 0, 1) := by decide +kernel
theorem dX4_waitingAt_2 : decode cX4_waitingAt 2 = .ok (.iload_n 1, 1) := by decide +kernel
theorem dX4_waitingAt_3 : decode cX4_waitingAt 3 = .ok (.invokevirtual 81, 3) := by decide +kernel
theorem dX4_waitingAt_6 : decode cX4_waitingAt 6 = .ok (.ifCond .eq 21, 3) := by decide +kernel
theorem dX4_waitingAt_9 : decode cX4_waitingAt 9 = .ok (.iload_n 2, 1) := by decide +kernel
theorem dX4_waitingAt_10 : decode cX4_waitingAt 10 = .ok (.ifCond .lt 17, 3) := by decide +kernel
theorem dX4_waitingAt_13 : decode cX4_waitingAt 13 = .ok (.iload_n 2, 1) := by decide +kernel
theorem dX4_waitingAt_14 : decode cX4_waitingAt 14 = .ok (.aload_n 0, 1) := by decide +kernel
theorem dX4_waitingAt_15 : decode cX4_waitingAt 15 = .ok (.getfield 46, 3) := by decide +kernel
theorem dX4_waitingAt_18 : decode cX4_waitingAt 18 = .ok (.iload_n 1, 1) := by decide +kernel
theorem dX4_waitingAt_19 : decode cX4_waitingAt 19 = .ok (.iaload, 1) := by decide +kernel
theorem dX4_waitingAt_20 : decode cX4_waitingAt 20 = .ok (.if_icmp .ge 7, 3) := by decide +kernel
theorem dX4_waitingAt_23 : decode cX4_waitingAt 23 = .ok (.iconst 0, 1) := by decide +kernel
theorem dX4_waitingAt_24 : decode cX4_waitingAt 24 = .ok (.goto 4, 3) := by decide +kernel
theorem dX4_waitingAt_27 : decode cX4_waitingAt 27 = .ok (.iconst 1, 1) := by decide +kernel
theorem dX4_waitingAt_28 : decode cX4_waitingAt 28 = .ok (.putfield 68, 3) := by decide +kernel
theorem dX4_waitingAt_31 : decode cX4_waitingAt 31 = .ok (.aload_n 0, 1) := by decide +kernel
theorem dX4_waitingAt_32 : decode cX4_waitingAt 32 = .ok (.getfield 68, 3) := by decide +kernel
theorem dX4_waitingAt_35 : decode cX4_waitingAt 35 = .ok (.ifCond .ne 17, 3) := by decide +kernel
theorem dX4_waitingAt_38 : decode cX4_waitingAt 38 = .ok (.aload_n 0, 1) := by decide +kernel
theorem dX4_waitingAt_39 : decode cX4_waitingAt 39 = .ok (.getfield 49, 3) := by decide +kernel
theorem dX4_waitingAt_42 : decode cX4_waitingAt 42 = .ok (.bipush 16, 2) := by decide +kernel
theorem dX4_waitingAt_44 : decode cX4_waitingAt 44 = .ok (.iload_n 1, 1) := by decide +kernel
theorem dX4_waitingAt_45 : decode cX4_waitingAt 45 = .ok (.imul, 1) := by decide +kernel
theorem dX4_waitingAt_46 : decode cX4_waitingAt 46 = .ok (.iload_n 2, 1) := by decide +kernel
theorem dX4_waitingAt_47 : decode cX4_waitingAt 47 = .ok (.iadd, 1) := by decide +kernel
theorem dX4_waitingAt_48 : decode cX4_waitingAt 48 = .ok (.iaload, 1) := by decide +kernel
theorem dX4_waitingAt_49 : decode cX4_waitingAt 49 = .ok (.goto 4, 3) := by decide +kernel
theorem dX4_waitingAt_52 : decode cX4_waitingAt 52 = .ok (.iconst 0, 1) := by decide +kernel
theorem dX4_waitingAt_53 : decode cX4_waitingAt 53 = .ok (.ireturn, 1) := by decide +kernel
theorem dX4_offerDays_0 : decode cX4_offerDays 0 = .ok (.aload_n 0, 1) := by decide +kernel
theorem dX4_offerDays_1 : decode cX4_offerDays 1 = .ok (.iload_n 1, 1) := by decide +kernel
theorem dX4_offerDays_2 : decode cX4_offerDays 2 = .ok (.iload_n 2, 1) := by decide +kernel
theorem dX4_offerDays_3 : decode cX4_offerDays 3 = .ok (.invokevirtual 129, 3) := by decide +kernel
theorem dX4_offerDays_6 : decode cX4_offerDays 6 = .ok (.ifCond .eq 12, 3) := by decide +kernel
theorem dX4_offerDays_9 : decode cX4_offerDays 9 = .ok (.aload_n 0, 1) := by decide +kernel
theorem dX4_offerDays_10 : decode cX4_offerDays 10 = .ok (.iload_n 1, 1) := by decide +kernel
theorem dX4_offerDays_11 : decode cX4_offerDays 11 = .ok (.iload_n 2, 1) := by decide +kernel
theorem dX4_offerDays_12 : decode cX4_offerDays 12 = .ok (.invokevirtual 98, 3) := by decide +kernel
theorem dX4_offerDays_15 : decode cX4_offerDays 15 = .ok (.ifCond .ne 5, 3) := by decide +kernel
theorem dX4_offerDays_18 : decode cX4_offerDays 18 = .ok (.iconst 0, 1) := by decide +kernel
theorem dX4_offerDays_19 : decode cX4_offerDays 19 = .ok (.ireturn, 1) := by decide +kernel
theorem dX4_offerDays_20 : decode cX4_offerDays 20 = .ok (.aload_n 0, 1) := by decide +kernel
theorem dX4_offerDays_21 : decode cX4_offerDays 21 = .ok (.getfield 52, 3) := by decide +kernel
theorem dX4_offerDays_24 : decode cX4_offerDays 24 = .ok (.bipush 16, 2) := by decide +kernel
theorem dX4_offerDays_26 : decode cX4_offerDays 26 = .ok (.iload_n 2, 1) := by decide +kernel
theorem dX4_offerDays_27 : decode cX4_offerDays 27 = .ok (.imul, 1) := by decide +kernel
theorem dX4_offerDays_28 : decode cX4_offerDays 28 = .ok (.iload_n 1, 1) := by decide +kernel
theorem dX4_offerDays_29 : decode cX4_offerDays 29 = .ok (.iadd, 1) := by decide +kernel
theorem dX4_offerDays_30 : decode cX4_offerDays 30 = .ok (.iaload, 1) := by decide +kernel
theorem dX4_offerDays_31 : decode cX4_offerDays 31 = .ok (.iconst 3, 1) := by decide +kernel
theorem dX4_offerDays_32 : decode cX4_offerDays 32 = .ok (.iadd, 1) := by decide +kernel
theorem dX4_offerDays_33 : decode cX4_offerDays 33 = .ok (.aload_n 0, 1) := by decide +kernel
theorem dX4_offerDays_34 : decode cX4_offerDays 34 = .ok (.getfield 64, 3) := by decide +kernel
theorem dX4_offerDays_37 : decode cX4_offerDays 37 = .ok (.isub, 1) := by decide +kernel
theorem dX4_offerDays_38 : decode cX4_offerDays 38 = .ok (.ireturn, 1) := by decide +kernel
theorem dX4_isAhead_0 : decode cX4_isAhead 0 = .ok (.aload_n 0, 1) := by decide +kernel
theorem dX4_isAhead_1 : decode cX4_isAhead 1 = .ok (.getfield 22, 3) := by decide +kernel
theorem dX4_isAhead_4 : decode cX4_isAhead 4 = .ok (.iload_n 1, 1) := by decide +kernel
theorem dX4_isAhead_5 : decode cX4_isAhead 5 = .ok (.iaload, 1) := by decide +kernel
theorem dX4_isAhead_6 : decode cX4_isAhead 6 = .ok (.aload_n 0, 1) := by decide +kernel
theorem dX4_isAhead_7 : decode cX4_isAhead 7 = .ok (.getfield 22, 3) := by decide +kernel
theorem dX4_isAhead_10 : decode cX4_isAhead 10 = .ok (.iload_n 2, 1) := by decide +kernel
theorem dX4_isAhead_11 : decode cX4_isAhead 11 = .ok (.iaload, 1) := by decide +kernel
theorem dX4_isAhead_12 : decode cX4_isAhead 12 = .ok (.if_icmp .eq 24, 3) := by decide +kernel
theorem dX4_isAhead_15 : decode cX4_isAhead 15 = .ok (.aload_n 0, 1) := by decide +kernel
theorem dX4_isAhead_16 : decode cX4_isAhead 16 = .ok (.getfield 22, 3) := by decide +kernel
theorem dX4_isAhead_19 : decode cX4_isAhead 19 = .ok (.iload_n 1, 1) := by decide +kernel
theorem dX4_isAhead_20 : decode cX4_isAhead 20 = .ok (.iaload, 1) := by decide +kernel
theorem dX4_isAhead_21 : decode cX4_isAhead 21 = .ok (.aload_n 0, 1) := by decide +kernel
theorem dX4_isAhead_22 : decode cX4_isAhead 22 = .ok (.getfield 22, 3) := by decide +kernel
theorem dX4_isAhead_25 : decode cX4_isAhead 25 = .ok (.iload_n 2, 1) := by decide +kernel
theorem dX4_isAhead_26 : decode cX4_isAhead 26 = .ok (.iaload, 1) := by decide +kernel
theorem dX4_isAhead_27 : decode cX4_isAhead 27 = .ok (.if_icmp .ge 7, 3) := by decide +kernel
theorem dX4_isAhead_30 : decode cX4_isAhead 30 = .ok (.iconst 1, 1) := by decide +kernel
theorem dX4_isAhead_31 : decode cX4_isAhead 31 = .ok (.goto 4, 3) := by decide +kernel
theorem dX4_isAhead_34 : decode cX4_isAhead 34 = .ok (.iconst 0, 1) := by decide +kernel
theorem dX4_isAhead_35 : decode cX4_isAhead 35 = .ok (.ireturn, 1) := by decide +kernel
theorem dX4_isAhead_36 : decode cX4_isAhead 36 = .ok (.aload_n 0, 1) := by decide +kernel
theorem dX4_isAhead_37 : decode cX4_isAhead 37 = .ok (.getfield 43, 3) := by decide +kernel
theorem dX4_isAhead_40 : decode cX4_isAhead 40 = .ok (.iload_n 1, 1) := by decide +kernel
theorem dX4_isAhead_41 : decode cX4_isAhead 41 = .ok (.iaload, 1) := by decide +kernel
theorem dX4_isAhead_42 : decode cX4_isAhead 42 = .ok (.aload_n 0, 1) := by decide +kernel
theorem dX4_isAhead_43 : decode cX4_isAhead 43 = .ok (.getfield 43, 3) := by decide +kernel
theorem dX4_isAhead_46 : decode cX4_isAhead 46 = .ok (.iload_n 2, 1) := by decide +kernel
theorem dX4_isAhead_47 : decode cX4_isAhead 47 = .ok (.iaload, 1) := by decide +kernel
theorem dX4_isAhead_48 : decode cX4_isAhead 48 = .ok (.if_icmp .eq 26, 3) := by decide +kernel
theorem dX4_isAhead_51 : decode cX4_isAhead 51 = .ok (.aload_n 0, 1) := by decide +kernel
theorem dX4_isAhead_52 : decode cX4_isAhead 52 = .ok (.getfield 43, 3) := by decide +kernel
theorem dX4_isAhead_55 : decode cX4_isAhead 55 = .ok (.iload_n 1, 1) := by decide +kernel
theorem dX4_isAhead_56 : decode cX4_isAhead 56 = .ok (.iaload, 1) := by decide +kernel
theorem dX4_isAhead_57 : decode cX4_isAhead 57 = .ok (.aload_n 0, 1) := by decide +kernel
theorem dX4_isAhead_58 : decode cX4_isAhead 58 = .ok (.getfield 43, 3) := by decide +kernel
theorem dX4_isAhead_61 : decode cX4_isAhead 61 = .ok (.iload_n 2, 1) := by decide +kernel
theorem dX4_isAhead_62 : decode cX4_isAhead 62 = .ok (.iaload, 1) := by decide +kernel
theorem dX4_isAhead_63 : decode cX4_isAhead 63 = .ok (.if_icmp .ge 7, 3) := by decide +kernel
theorem dX4_isAhead_66 : decode cX4_isAhead 66 = .ok (.iconst 1, 1) := by decide +kernel
theorem dX4_isAhead_67 : decode cX4_isAhead 67 = .ok (.goto 17, 3) := by decide +kernel
theorem dX4_isAhead_70 : decode cX4_isAhead 70 = .ok (.iconst 0, 1) := by decide +kernel
theorem dX4_isAhead_71 : decode cX4_isAhead 71 = .ok (.goto 13, 3) := by decide +kernel
theorem dX4_isAhead_74 : decode cX4_isAhead 74 = .ok (.iload_n 1, 1) := by decide +kernel
theorem dX4_isAhead_75 : decode cX4_isAhead 75 = .ok (.iload_n 2, 1) := by decide +kernel
theorem dX4_isAhead_76 : decode cX4_isAhead 76 = .ok (.if_icmp .ge 7, 3) := by decide +kernel
theorem dX4_isAhead_79 : decode cX4_isAhead 79 = .ok (.iconst 1, 1) := by decide +kernel
theorem dX4_isAhead_80 : decode cX4_isAhead 80 = .ok (.goto 4, 3) := by decide +kernel
theorem dX4_isAhead_83 : decode cX4_isAhead 83 = .ok (.iconst 0, 1) := by decide +kernel
theorem dX4_isAhead_84 : decode cX4_isAhead 84 = .ok (.ireturn, 1) := by decide +kernel
theorem dX4_getsOne_0 : decode cX4_getsOne 0 = .ok (.iconst 0, 1) := by decide +kernel
theorem dX4_getsOne_1 : decode cX4_getsOne 1 = .ok (.istore_n 2, 1) := by decide +kernel
theorem dX4_getsOne_2 : decode cX4_getsOne 2 = .ok (.iload_n 2, 1) := by decide +kernel
theorem dX4_getsOne_3 : decode cX4_getsOne 3 = .ok (.aload_n 0, 1) := by decide +kernel
theorem dX4_getsOne_4 : decode cX4_getsOne 4 = .ok (.getfield 34, 3) := by decide +kernel
theorem dX4_getsOne_7 : decode cX4_getsOne 7 = .ok (.iload_n 1, 1) := by decide +kernel
theorem dX4_getsOne_8 : decode cX4_getsOne 8 = .ok (.iaload, 1) := by decide +kernel
theorem dX4_getsOne_9 : decode cX4_getsOne 9 = .ok (.if_icmp .ge 52, 3) := by decide +kernel
theorem dX4_getsOne_12 : decode cX4_getsOne 12 = .ok (.aload_n 0, 1) := by decide +kernel
theorem dX4_getsOne_13 : decode cX4_getsOne 13 = .ok (.getfield 37, 3) := by decide +kernel
theorem dX4_getsOne_16 : decode cX4_getsOne 16 = .ok (.bipush 6, 2) := by decide +kernel
theorem dX4_getsOne_18 : decode cX4_getsOne 18 = .ok (.iload_n 1, 1) := by decide +kernel
theorem dX4_getsOne_19 : decode cX4_getsOne 19 = .ok (.imul, 1) := by decide +kernel
theorem dX4_getsOne_20 : decode cX4_getsOne 20 = .ok (.iload_n 2, 1) := by decide +kernel
theorem dX4_getsOne_21 : decode cX4_getsOne 21 = .ok (.iadd, 1) := by decide +kernel
theorem dX4_getsOne_22 : decode cX4_getsOne 22 = .ok (.iaload, 1) := by decide +kernel
theorem dX4_getsOne_23 : decode cX4_getsOne 23 = .ok (.istore_n 3, 1) := by decide +kernel
theorem dX4_getsOne_24 : decode cX4_getsOne 24 = .ok (.aload_n 0, 1) := by decide +kernel
theorem dX4_getsOne_25 : decode cX4_getsOne 25 = .ok (.iload_n 1, 1) := by decide +kernel
theorem dX4_getsOne_26 : decode cX4_getsOne 26 = .ok (.iload_n 3, 1) := by decide +kernel
theorem dX4_getsOne_27 : decode cX4_getsOne 27 = .ok (.aload_n 0, 1) := by decide +kernel
theorem dX4_getsOne_28 : decode cX4_getsOne 28 = .ok (.getfield 31, 3) := by decide +kernel
theorem dX4_getsOne_31 : decode cX4_getsOne 31 = .ok (.iload_n 1, 1) := by decide +kernel
theorem dX4_getsOne_32 : decode cX4_getsOne 32 = .ok (.iaload, 1) := by decide +kernel
theorem dX4_getsOne_33 : decode cX4_getsOne 33 = .ok (.invokevirtual 118, 3) := by decide +kernel
theorem dX4_getsOne_36 : decode cX4_getsOne 36 = .ok (.ifCond .ne 19, 3) := by decide +kernel
theorem dX4_getsOne_39 : decode cX4_getsOne 39 = .ok (.aload_n 0, 1) := by decide +kernel
theorem dX4_getsOne_40 : decode cX4_getsOne 40 = .ok (.iload_n 3, 1) := by decide +kernel
theorem dX4_getsOne_41 : decode cX4_getsOne 41 = .ok (.invokevirtual 115, 3) := by decide +kernel
theorem dX4_getsOne_44 : decode cX4_getsOne 44 = .ok (.ifCond .le 11, 3) := by decide +kernel
theorem dX4_getsOne_47 : decode cX4_getsOne 47 = .ok (.aload_n 0, 1) := by decide +kernel
theorem dX4_getsOne_48 : decode cX4_getsOne 48 = .ok (.iload_n 1, 1) := by decide +kernel
theorem dX4_getsOne_49 : decode cX4_getsOne 49 = .ok (.iload_n 3, 1) := by decide +kernel
theorem dX4_getsOne_50 : decode cX4_getsOne 50 = .ok (.invokevirtual 132, 3) := by decide +kernel
theorem dX4_getsOne_53 : decode cX4_getsOne 53 = .ok (.iconst 1, 1) := by decide +kernel
theorem dX4_getsOne_54 : decode cX4_getsOne 54 = .ok (.ireturn, 1) := by decide +kernel
theorem dX4_getsOne_55 : decode cX4_getsOne 55 = .ok (.iinc 2 1, 3) := by decide +kernel
theorem dX4_getsOne_58 : decode cX4_getsOne 58 = .ok (.goto (-56), 3) := by decide +kernel
theorem dX4_getsOne_61 : decode cX4_getsOne 61 = .ok (.iconst 0, 1) := by decide +kernel
theorem dX4_getsOne_62 : decode cX4_getsOne 62 = .ok (.ireturn, 1) := by decide +kernel
theorem dX4_runLottery_0 : decode cX4_runLottery 0 = .ok (.aload_n 0, 1) := by decide +kernel
theorem dX4_runLottery_1 : decode cX4_runLottery 1 = .ok (.iload_n 1, 1) := by decide +kernel
theorem dX4_runLottery_2 : decode cX4_runLottery 2 = .ok (.ifCond .ge 7, 3) := by decide +kernel
theorem dX4_runLottery_5 : decode cX4_runLottery 5 = .ok (.iconst 1, 1) := by decide +kernel
theorem dX4_runLottery_6 : decode cX4_runLottery 6 = .ok (.goto 4, 3) := by decide +kernel
theorem dX4_runLottery_9 : decode cX4_runLottery 9 = .ok (.iconst 0, 1) := by decide +kernel
theorem dX4_runLottery_10 : decode cX4_runLottery 10 = .ok (.putfield 68, 3) := by decide +kernel
theorem dX4_runLottery_13 : decode cX4_runLottery 13 = .ok (.aload_n 0, 1) := by decide +kernel
theorem dX4_runLottery_14 : decode cX4_runLottery 14 = .ok (.getfield 68, 3) := by decide +kernel
theorem dX4_runLottery_17 : decode cX4_runLottery 17 = .ok (.ifCond .le 5, 3) := by decide +kernel
theorem dX4_runLottery_20 : decode cX4_runLottery 20 = .ok (.iconst 0, 1) := by decide +kernel
theorem dX4_runLottery_21 : decode cX4_runLottery 21 = .ok (.ireturn, 1) := by decide +kernel
theorem dX4_runLottery_22 : decode cX4_runLottery 22 = .ok (.iload_n 1, 1) := by decide +kernel
theorem dX4_runLottery_23 : decode cX4_runLottery 23 = .ok (.i2l, 1) := by decide +kernel
theorem dX4_runLottery_24 : decode cX4_runLottery 24 = .ok (.lstore_n 2, 1) := by decide +kernel
theorem dX4_runLottery_25 : decode cX4_runLottery 25 = .ok (.iconst 0, 1) := by decide +kernel
theorem dX4_runLottery_26 : decode cX4_runLottery 26 = .ok (.istore 4, 2) := by decide +kernel
theorem dX4_runLottery_28 : decode cX4_runLottery 28 = .ok (.iload 4, 2) := by decide +kernel
theorem dX4_runLottery_30 : decode cX4_runLottery 30 = .ok (.aload_n 0, 1) := by decide +kernel
theorem dX4_runLottery_31 : decode cX4_runLottery 31 = .ok (.getfield 74, 3) := by decide +kernel
theorem dX4_runLottery_34 : decode cX4_runLottery 34 = .ok (.if_icmp .ge 36, 3) := by decide +kernel
theorem dX4_runLottery_37 : decode cX4_runLottery 37 = .ok (.ldc2_w 142, 3) := by decide +kernel
theorem dX4_runLottery_40 : decode cX4_runLottery 40 = .ok (.lload_n 2, 1) := by decide +kernel
theorem dX4_runLottery_41 : decode cX4_runLottery 41 = .ok (.lmul, 1) := by decide +kernel
theorem dX4_runLottery_42 : decode cX4_runLottery 42 = .ok (.ldc2_w 144, 3) := by decide +kernel
theorem dX4_runLottery_45 : decode cX4_runLottery 45 = .ok (.ladd, 1) := by decide +kernel
theorem dX4_runLottery_46 : decode cX4_runLottery 46 = .ok (.ldc2_w 146, 3) := by decide +kernel
theorem dX4_runLottery_49 : decode cX4_runLottery 49 = .ok (.lrem, 1) := by decide +kernel
theorem dX4_runLottery_50 : decode cX4_runLottery 50 = .ok (.lstore_n 2, 1) := by decide +kernel
theorem dX4_runLottery_51 : decode cX4_runLottery 51 = .ok (.aload_n 0, 1) := by decide +kernel
theorem dX4_runLottery_52 : decode cX4_runLottery 52 = .ok (.getfield 43, 3) := by decide +kernel
theorem dX4_runLottery_55 : decode cX4_runLottery 55 = .ok (.iload 4, 2) := by decide +kernel
theorem dX4_runLottery_57 : decode cX4_runLottery 57 = .ok (.lload_n 2, 1) := by decide +kernel
theorem dX4_runLottery_58 : decode cX4_runLottery 58 = .ok (.ldc2_w 148, 3) := by decide +kernel
theorem dX4_runLottery_61 : decode cX4_runLottery 61 = .ok (.ldiv, 1) := by decide +kernel
theorem dX4_runLottery_62 : decode cX4_runLottery 62 = .ok (.l2i, 1) := by decide +kernel
theorem dX4_runLottery_63 : decode cX4_runLottery 63 = .ok (.iastore, 1) := by decide +kernel
theorem dX4_runLottery_64 : decode cX4_runLottery 64 = .ok (.iinc 4 1, 3) := by decide +kernel
theorem dX4_runLottery_67 : decode cX4_runLottery 67 = .ok (.goto (-39), 3) := by decide +kernel
theorem dX4_runLottery_70 : decode cX4_runLottery 70 = .ok (.iconst 0, 1) := by decide +kernel
theorem dX4_runLottery_71 : decode cX4_runLottery 71 = .ok (.istore 4, 2) := by decide +kernel
theorem dX4_runLottery_73 : decode cX4_runLottery 73 = .ok (.iconst 0, 1) := by decide +kernel
theorem dX4_runLottery_74 : decode cX4_runLottery 74 = .ok (.istore 5, 2) := by decide +kernel
theorem dX4_runLottery_76 : decode cX4_runLottery 76 = .ok (.iload 5, 2) := by decide +kernel
theorem dX4_runLottery_78 : decode cX4_runLottery 78 = .ok (.aload_n 0, 1) := by decide +kernel
theorem dX4_runLottery_79 : decode cX4_runLottery 79 = .ok (.getfield 74, 3) := by decide +kernel
theorem dX4_runLottery_82 : decode cX4_runLottery 82 = .ok (.if_icmp .ge 95, 3) := by decide +kernel
theorem dX4_runLottery_85 : decode cX4_runLottery 85 = .ok (.iconst 0, 1) := by decide +kernel
theorem dX4_runLottery_86 : decode cX4_runLottery 86 = .ok (.istore 6, 2) := by decide +kernel
theorem dX4_runLottery_88 : decode cX4_runLottery 88 = .ok (.iload 6, 2) := by decide +kernel
theorem dX4_runLottery_90 : decode cX4_runLottery 90 = .ok (.aload_n 0, 1) := by decide +kernel
theorem dX4_runLottery_91 : decode cX4_runLottery 91 = .ok (.getfield 74, 3) := by decide +kernel
theorem dX4_runLottery_94 : decode cX4_runLottery 94 = .ok (.if_icmp .ge 77, 3) := by decide +kernel
theorem dX4_runLottery_97 : decode cX4_runLottery 97 = .ok (.iconst 0, 1) := by decide +kernel
theorem dX4_runLottery_98 : decode cX4_runLottery 98 = .ok (.istore 7, 2) := by decide +kernel
theorem dX4_runLottery_100 : decode cX4_runLottery 100 = .ok (.iconst 0, 1) := by decide +kernel
theorem dX4_runLottery_101 : decode cX4_runLottery 101 = .ok (.istore 8, 2) := by decide +kernel
theorem dX4_runLottery_103 : decode cX4_runLottery 103 = .ok (.iload 8, 2) := by decide +kernel
theorem dX4_runLottery_105 : decode cX4_runLottery 105 = .ok (.aload_n 0, 1) := by decide +kernel
theorem dX4_runLottery_106 : decode cX4_runLottery 106 = .ok (.getfield 74, 3) := by decide +kernel
theorem dX4_runLottery_109 : decode cX4_runLottery 109 = .ok (.if_icmp .ge 30, 3) := by decide +kernel
theorem dX4_runLottery_112 : decode cX4_runLottery 112 = .ok (.iload 7, 2) := by decide +kernel
theorem dX4_runLottery_114 : decode cX4_runLottery 114 = .ok (.aload_n 0, 1) := by decide +kernel
theorem dX4_runLottery_115 : decode cX4_runLottery 115 = .ok (.iload 8, 2) := by decide +kernel
theorem dX4_runLottery_117 : decode cX4_runLottery 117 = .ok (.iload 6, 2) := by decide +kernel
theorem dX4_runLottery_119 : decode cX4_runLottery 119 = .ok (.invokevirtual 150, 3) := by decide +kernel
theorem dX4_runLottery_122 : decode cX4_runLottery 122 = .ok (.ifCond .eq 7, 3) := by decide +kernel
theorem dX4_runLottery_125 : decode cX4_runLottery 125 = .ok (.iconst 1, 1) := by decide +kernel
theorem dX4_runLottery_126 : decode cX4_runLottery 126 = .ok (.goto 4, 3) := by decide +kernel
theorem dX4_runLottery_129 : decode cX4_runLottery 129 = .ok (.iconst 0, 1) := by decide +kernel
theorem dX4_runLottery_130 : decode cX4_runLottery 130 = .ok (.iadd, 1) := by decide +kernel
theorem dX4_runLottery_131 : decode cX4_runLottery 131 = .ok (.istore 7, 2) := by decide +kernel
theorem dX4_runLottery_133 : decode cX4_runLottery 133 = .ok (.iinc 8 1, 3) := by decide +kernel
theorem dX4_runLottery_136 : decode cX4_runLottery 136 = .ok (.goto (-33), 3) := by decide +kernel
theorem dX4_runLottery_139 : decode cX4_runLottery 139 = .ok (.iload 4, 2) := by decide +kernel
theorem dX4_runLottery_141 : decode cX4_runLottery 141 = .ok (.iload 7, 2) := by decide +kernel
theorem dX4_runLottery_143 : decode cX4_runLottery 143 = .ok (.iload 5, 2) := by decide +kernel
theorem dX4_runLottery_145 : decode cX4_runLottery 145 = .ok (.if_icmp .ne 16, 3) := by decide +kernel
theorem dX4_runLottery_148 : decode cX4_runLottery 148 = .ok (.aload_n 0, 1) := by decide +kernel
theorem dX4_runLottery_149 : decode cX4_runLottery 149 = .ok (.iload 6, 2) := by decide +kernel
theorem dX4_runLottery_151 : decode cX4_runLottery 151 = .ok (.invokevirtual 153, 3) := by decide +kernel
theorem dX4_runLottery_154 : decode cX4_runLottery 154 = .ok (.ifCond .eq 7, 3) := by decide +kernel
theorem dX4_runLottery_157 : decode cX4_runLottery 157 = .ok (.iconst 1, 1) := by decide +kernel
theorem dX4_runLottery_158 : decode cX4_runLottery 158 = .ok (.goto 4, 3) := by decide +kernel
theorem dX4_runLottery_161 : decode cX4_runLottery 161 = .ok (.iconst 0, 1) := by decide +kernel
theorem dX4_runLottery_162 : decode cX4_runLottery 162 = .ok (.iadd, 1) := by decide +kernel
theorem dX4_runLottery_163 : decode cX4_runLottery 163 = .ok (.istore 4, 2) := by decide +kernel
theorem dX4_runLottery_165 : decode cX4_runLottery 165 = .ok (.iinc 6 1, 3) := by decide +kernel
theorem dX4_runLottery_168 : decode cX4_runLottery 168 = .ok (.goto (-80), 3) := by decide +kernel
theorem dX4_runLottery_171 : decode cX4_runLottery 171 = .ok (.iinc 5 1, 3) := by decide +kernel
theorem dX4_runLottery_174 : decode cX4_runLottery 174 = .ok (.goto (-98), 3) := by decide +kernel
theorem dX4_runLottery_177 : decode cX4_runLottery 177 = .ok (.aload_n 0, 1) := by decide +kernel
theorem dX4_runLottery_178 : decode cX4_runLottery 178 = .ok (.invokevirtual 123, 3) := by decide +kernel
theorem dX4_runLottery_181 : decode cX4_runLottery 181 = .ok (.iload 4, 2) := by decide +kernel
theorem dX4_runLottery_183 : decode cX4_runLottery 183 = .ok (.ireturn, 1) := by decide +kernel
theorem dX4_lotteryNumber_0 : decode cX4_lotteryNumber 0 = .ok (.aload_n 0, 1) := by decide +kernel
theorem dX4_lotteryNumber_1 : decode cX4_lotteryNumber 1 = .ok (.aload_n 0, 1) := by decide +kernel
theorem dX4_lotteryNumber_2 : decode cX4_lotteryNumber 2 = .ok (.iload_n 1, 1) := by decide +kernel
theorem dX4_lotteryNumber_3 : decode cX4_lotteryNumber 3 = .ok (.invokevirtual 77, 3) := by decide +kernel
theorem dX4_lotteryNumber_6 : decode cX4_lotteryNumber 6 = .ok (.ifCond .eq 7, 3) := by decide +kernel
theorem dX4_lotteryNumber_9 : decode cX4_lotteryNumber 9 = .ok (.iconst 0, 1) := by decide +kernel
theorem dX4_lotteryNumber_10 : decode cX4_lotteryNumber 10 = .ok (.goto 4, 3) := by decide +kernel
theorem dX4_lotteryNumber_13 : decode cX4_lotteryNumber 13 = .ok (.iconst 1, 1) := by decide +kernel
theorem dX4_lotteryNumber_14 : decode cX4_lotteryNumber 14 = .ok (.putfield 68, 3) := by decide +kernel
theorem dX4_lotteryNumber_17 : decode cX4_lotteryNumber 17 = .ok (.aload_n 0, 1) := by decide +kernel
theorem dX4_lotteryNumber_18 : decode cX4_lotteryNumber 18 = .ok (.getfield 68, 3) := by decide +kernel
theorem dX4_lotteryNumber_21 : decode cX4_lotteryNumber 21 = .ok (.ifCond .ne 12, 3) := by decide +kernel
theorem dX4_lotteryNumber_24 : decode cX4_lotteryNumber 24 = .ok (.aload_n 0, 1) := by decide +kernel
theorem dX4_lotteryNumber_25 : decode cX4_lotteryNumber 25 = .ok (.getfield 43, 3) := by decide +kernel
theorem dX4_lotteryNumber_28 : decode cX4_lotteryNumber 28 = .ok (.iload_n 1, 1) := by decide +kernel
theorem dX4_lotteryNumber_29 : decode cX4_lotteryNumber 29 = .ok (.iaload, 1) := by decide +kernel
theorem dX4_lotteryNumber_30 : decode cX4_lotteryNumber 30 = .ok (.goto 4, 3) := by decide +kernel
theorem dX4_lotteryNumber_33 : decode cX4_lotteryNumber 33 = .ok (.iconst 0, 1) := by decide +kernel
theorem dX4_lotteryNumber_34 : decode cX4_lotteryNumber 34 = .ok (.ireturn, 1) := by decide +kernel
theorem dX4_putUp_0 : decode cX4_putUp 0 = .ok (.aload_n 0, 1) := by decide +kernel
theorem dX4_putUp_1 : decode cX4_putUp 1 = .ok (.iload_n 1, 1) := by decide +kernel
theorem dX4_putUp_2 : decode cX4_putUp 2 = .ok (.iload_n 2, 1) := by decide +kernel
theorem dX4_putUp_3 : decode cX4_putUp 3 = .ok (.invokevirtual 129, 3) := by decide +kernel
theorem dX4_putUp_6 : decode cX4_putUp 6 = .ok (.ifCond .ne 5, 3) := by decide +kernel
theorem dX4_putUp_9 : decode cX4_putUp 9 = .ok (.iconst 0, 1) := by decide +kernel
theorem dX4_putUp_10 : decode cX4_putUp 10 = .ok (.ireturn, 1) := by decide +kernel
theorem dX4_putUp_11 : decode cX4_putUp 11 = .ok (.aload_n 0, 1) := by decide +kernel
theorem dX4_putUp_12 : decode cX4_putUp 12 = .ok (.getfield 31, 3) := by decide +kernel
theorem dX4_putUp_15 : decode cX4_putUp 15 = .ok (.iload_n 1, 1) := by decide +kernel
theorem dX4_putUp_16 : decode cX4_putUp 16 = .ok (.iaload, 1) := by decide +kernel
theorem dX4_putUp_17 : decode cX4_putUp 17 = .ok (.iload_n 2, 1) := by decide +kernel
theorem dX4_putUp_18 : decode cX4_putUp 18 = .ok (.invokestatic 84, 3) := by decide +kernel
theorem dX4_putUp_21 : decode cX4_putUp 21 = .ok (.ifCond .ne 10, 3) := by decide +kernel
theorem dX4_putUp_24 : decode cX4_putUp 24 = .ok (.aload_n 0, 1) := by decide +kernel
theorem dX4_putUp_25 : decode cX4_putUp 25 = .ok (.iconst 2, 1) := by decide +kernel
theorem dX4_putUp_26 : decode cX4_putUp 26 = .ok (.putfield 68, 3) := by decide +kernel
theorem dX4_putUp_29 : decode cX4_putUp 29 = .ok (.iconst 0, 1) := by decide +kernel
theorem dX4_putUp_30 : decode cX4_putUp 30 = .ok (.ireturn, 1) := by decide +kernel
theorem dX4_putUp_31 : decode cX4_putUp 31 = .ok (.aload_n 0, 1) := by decide +kernel
theorem dX4_putUp_32 : decode cX4_putUp 32 = .ok (.getfield 40, 3) := by decide +kernel
theorem dX4_putUp_35 : decode cX4_putUp 35 = .ok (.iload_n 1, 1) := by decide +kernel
theorem dX4_putUp_36 : decode cX4_putUp 36 = .ok (.iaload, 1) := by decide +kernel
theorem dX4_putUp_37 : decode cX4_putUp 37 = .ok (.istore_n 3, 1) := by decide +kernel
theorem dX4_putUp_38 : decode cX4_putUp 38 = .ok (.aload_n 0, 1) := by decide +kernel
theorem dX4_putUp_39 : decode cX4_putUp 39 = .ok (.getfield 40, 3) := by decide +kernel
theorem dX4_putUp_42 : decode cX4_putUp 42 = .ok (.iload_n 1, 1) := by decide +kernel
theorem dX4_putUp_43 : decode cX4_putUp 43 = .ok (.iload_n 2, 1) := by decide +kernel
theorem dX4_putUp_44 : decode cX4_putUp 44 = .ok (.iastore, 1) := by decide +kernel
theorem dX4_putUp_45 : decode cX4_putUp 45 = .ok (.iload_n 3, 1) := by decide +kernel
theorem dX4_putUp_46 : decode cX4_putUp 46 = .ok (.ireturn, 1) := by decide +kernel
theorem dX4_withdraw_0 : decode cX4_withdraw 0 = .ok (.aload_n 0, 1) := by decide +kernel
theorem dX4_withdraw_1 : decode cX4_withdraw 1 = .ok (.aload_n 0, 1) := by decide +kernel
theorem dX4_withdraw_2 : decode cX4_withdraw 2 = .ok (.iload_n 1, 1) := by decide +kernel
theorem dX4_withdraw_3 : decode cX4_withdraw 3 = .ok (.invokevirtual 77, 3) := by decide +kernel
theorem dX4_withdraw_6 : decode cX4_withdraw 6 = .ok (.ifCond .eq 7, 3) := by decide +kernel
theorem dX4_withdraw_9 : decode cX4_withdraw 9 = .ok (.iconst 0, 1) := by decide +kernel
theorem dX4_withdraw_10 : decode cX4_withdraw 10 = .ok (.goto 4, 3) := by decide +kernel
theorem dX4_withdraw_13 : decode cX4_withdraw 13 = .ok (.iconst 1, 1) := by decide +kernel
theorem dX4_withdraw_14 : decode cX4_withdraw 14 = .ok (.putfield 68, 3) := by decide +kernel
theorem dX4_withdraw_17 : decode cX4_withdraw 17 = .ok (.aload_n 0, 1) := by decide +kernel
theorem dX4_withdraw_18 : decode cX4_withdraw 18 = .ok (.getfield 68, 3) := by decide +kernel
theorem dX4_withdraw_21 : decode cX4_withdraw 21 = .ok (.ifCond .le 5, 3) := by decide +kernel
theorem dX4_withdraw_24 : decode cX4_withdraw 24 = .ok (.iconst 0, 1) := by decide +kernel
theorem dX4_withdraw_25 : decode cX4_withdraw 25 = .ok (.ireturn, 1) := by decide +kernel
theorem dX4_withdraw_26 : decode cX4_withdraw 26 = .ok (.aload_n 0, 1) := by decide +kernel
theorem dX4_withdraw_27 : decode cX4_withdraw 27 = .ok (.getfield 40, 3) := by decide +kernel
theorem dX4_withdraw_30 : decode cX4_withdraw 30 = .ok (.iload_n 1, 1) := by decide +kernel
theorem dX4_withdraw_31 : decode cX4_withdraw 31 = .ok (.iaload, 1) := by decide +kernel
theorem dX4_withdraw_32 : decode cX4_withdraw 32 = .ok (.istore_n 2, 1) := by decide +kernel
theorem dX4_withdraw_33 : decode cX4_withdraw 33 = .ok (.aload_n 0, 1) := by decide +kernel
theorem dX4_withdraw_34 : decode cX4_withdraw 34 = .ok (.getfield 40, 3) := by decide +kernel
theorem dX4_withdraw_37 : decode cX4_withdraw 37 = .ok (.iload_n 1, 1) := by decide +kernel
theorem dX4_withdraw_38 : decode cX4_withdraw 38 = .ok (.iconst (-1), 1) := by decide +kernel
theorem dX4_withdraw_39 : decode cX4_withdraw 39 = .ok (.iastore, 1) := by decide +kernel
theorem dX4_withdraw_40 : decode cX4_withdraw 40 = .ok (.iload_n 2, 1) := by decide +kernel
theorem dX4_withdraw_41 : decode cX4_withdraw 41 = .ok (.ireturn, 1) := by decide +kernel
theorem dX4_placeUp_0 : decode cX4_placeUp 0 = .ok (.aload_n 0, 1) := by decide +kernel
theorem dX4_placeUp_1 : decode cX4_placeUp 1 = .ok (.aload_n 0, 1) := by decide +kernel
theorem dX4_placeUp_2 : decode cX4_placeUp 2 = .ok (.iload_n 1, 1) := by decide +kernel
theorem dX4_placeUp_3 : decode cX4_placeUp 3 = .ok (.invokevirtual 77, 3) := by decide +kernel
theorem dX4_placeUp_6 : decode cX4_placeUp 6 = .ok (.ifCond .eq 7, 3) := by decide +kernel
theorem dX4_placeUp_9 : decode cX4_placeUp 9 = .ok (.iconst 0, 1) := by decide +kernel
theorem dX4_placeUp_10 : decode cX4_placeUp 10 = .ok (.goto 4, 3) := by decide +kernel
theorem dX4_placeUp_13 : decode cX4_placeUp 13 = .ok (.iconst 1, 1) := by decide +kernel
theorem dX4_placeUp_14 : decode cX4_placeUp 14 = .ok (.putfield 68, 3) := by decide +kernel
theorem dX4_placeUp_17 : decode cX4_placeUp 17 = .ok (.aload_n 0, 1) := by decide +kernel
theorem dX4_placeUp_18 : decode cX4_placeUp 18 = .ok (.getfield 68, 3) := by decide +kernel
theorem dX4_placeUp_21 : decode cX4_placeUp 21 = .ok (.ifCond .ne 12, 3) := by decide +kernel
theorem dX4_placeUp_24 : decode cX4_placeUp 24 = .ok (.aload_n 0, 1) := by decide +kernel
theorem dX4_placeUp_25 : decode cX4_placeUp 25 = .ok (.getfield 40, 3) := by decide +kernel
theorem dX4_placeUp_28 : decode cX4_placeUp 28 = .ok (.iload_n 1, 1) := by decide +kernel
theorem dX4_placeUp_29 : decode cX4_placeUp 29 = .ok (.iaload, 1) := by decide +kernel
theorem dX4_placeUp_30 : decode cX4_placeUp 30 = .ok (.goto 4, 3) := by decide +kernel
theorem dX4_placeUp_33 : decode cX4_placeUp 33 = .ok (.iconst 0, 1) := by decide +kernel
theorem dX4_placeUp_34 : decode cX4_placeUp 34 = .ok (.ireturn, 1) := by decide +kernel
theorem dX4_participants_0 : decode cX4_participants 0 = .ok (.iconst 0, 1) := by decide +kernel
theorem dX4_participants_1 : decode cX4_participants 1 = .ok (.istore_n 1, 1) := by decide +kernel
theorem dX4_participants_2 : decode cX4_participants 2 = .ok (.iconst 0, 1) := by decide +kernel
theorem dX4_participants_3 : decode cX4_participants 3 = .ok (.istore_n 2, 1) := by decide +kernel
theorem dX4_participants_4 : decode cX4_participants 4 = .ok (.iload_n 2, 1) := by decide +kernel
theorem dX4_participants_5 : decode cX4_participants 5 = .ok (.aload_n 0, 1) := by decide +kernel
theorem dX4_participants_6 : decode cX4_participants 6 = .ok (.getfield 74, 3) := by decide +kernel
theorem dX4_participants_9 : decode cX4_participants 9 = .ok (.if_icmp .ge 29, 3) := by decide +kernel
theorem dX4_participants_12 : decode cX4_participants 12 = .ok (.iload_n 1, 1) := by decide +kernel
theorem dX4_participants_13 : decode cX4_participants 13 = .ok (.aload_n 0, 1) := by decide +kernel
theorem dX4_participants_14 : decode cX4_participants 14 = .ok (.getfield 40, 3) := by decide +kernel
theorem dX4_participants_17 : decode cX4_participants 17 = .ok (.iload_n 2, 1) := by decide +kernel
theorem dX4_participants_18 : decode cX4_participants 18 = .ok (.iaload, 1) := by decide +kernel
theorem dX4_participants_19 : decode cX4_participants 19 = .ok (.iconst (-1), 1) := by decide +kernel
theorem dX4_participants_20 : decode cX4_participants 20 = .ok (.if_icmp .ne 7, 3) := by decide +kernel
theorem dX4_participants_23 : decode cX4_participants 23 = .ok (.iconst 0, 1) := by decide +kernel
theorem dX4_participants_24 : decode cX4_participants 24 = .ok (.goto 6, 3) := by decide +kernel
theorem dX4_participants_27 : decode cX4_participants 27 = .ok (.iconst 1, 1) := by decide +kernel
theorem dX4_participants_28 : decode cX4_participants 28 = .ok (.iload_n 2, 1) := by decide +kernel
theorem dX4_participants_29 : decode cX4_participants 29 = .ok (.ishl, 1) := by decide +kernel
theorem dX4_participants_30 : decode cX4_participants 30 = .ok (.ior, 1) := by decide +kernel
theorem dX4_participants_31 : decode cX4_participants 31 = .ok (.istore_n 1, 1) := by decide +kernel
theorem dX4_participants_32 : decode cX4_participants 32 = .ok (.iinc 2 1, 3) := by decide +kernel
theorem dX4_participants_35 : decode cX4_participants 35 = .ok (.goto (-31), 3) := by decide +kernel
theorem dX4_participants_38 : decode cX4_participants 38 = .ok (.iload_n 1, 1) := by decide +kernel
theorem dX4_participants_39 : decode cX4_participants 39 = .ok (.ireturn, 1) := by decide +kernel
theorem dX4_pointer_0 : decode cX4_pointer 0 = .ok (.iconst 0, 1) := by decide +kernel
theorem dX4_pointer_1 : decode cX4_pointer 1 = .ok (.istore_n 3, 1) := by decide +kernel
theorem dX4_pointer_2 : decode cX4_pointer 2 = .ok (.iload_n 3, 1) := by decide +kernel
theorem dX4_pointer_3 : decode cX4_pointer 3 = .ok (.aload_n 0, 1) := by decide +kernel
theorem dX4_pointer_4 : decode cX4_pointer 4 = .ok (.getfield 34, 3) := by decide +kernel
theorem dX4_pointer_7 : decode cX4_pointer 7 = .ok (.iload_n 1, 1) := by decide +kernel
theorem dX4_pointer_8 : decode cX4_pointer 8 = .ok (.iaload, 1) := by decide +kernel
theorem dX4_pointer_9 : decode cX4_pointer 9 = .ok (.if_icmp .ge 109, 3) := by decide +kernel
theorem dX4_pointer_12 : decode cX4_pointer 12 = .ok (.aload_n 0, 1) := by decide +kernel
theorem dX4_pointer_13 : decode cX4_pointer 13 = .ok (.getfield 37, 3) := by decide +kernel
theorem dX4_pointer_16 : decode cX4_pointer 16 = .ok (.bipush 6, 2) := by decide +kernel
theorem dX4_pointer_18 : decode cX4_pointer 18 = .ok (.iload_n 1, 1) := by decide +kernel
theorem dX4_pointer_19 : decode cX4_pointer 19 = .ok (.imul, 1) := by decide +kernel
theorem dX4_pointer_20 : decode cX4_pointer 20 = .ok (.iload_n 3, 1) := by decide +kernel
theorem dX4_pointer_21 : decode cX4_pointer 21 = .ok (.iadd, 1) := by decide +kernel
theorem dX4_pointer_22 : decode cX4_pointer 22 = .ok (.iaload, 1) := by decide +kernel
theorem dX4_pointer_23 : decode cX4_pointer 23 = .ok (.istore 4, 2) := by decide +kernel
theorem dX4_pointer_25 : decode cX4_pointer 25 = .ok (.aload_n 0, 1) := by decide +kernel
theorem dX4_pointer_26 : decode cX4_pointer 26 = .ok (.iload_n 1, 1) := by decide +kernel
theorem dX4_pointer_27 : decode cX4_pointer 27 = .ok (.iload 4, 2) := by decide +kernel
theorem dX4_pointer_29 : decode cX4_pointer 29 = .ok (.aload_n 0, 1) := by decide +kernel
theorem dX4_pointer_30 : decode cX4_pointer 30 = .ok (.getfield 31, 3) := by decide +kernel
theorem dX4_pointer_33 : decode cX4_pointer 33 = .ok (.iload_n 1, 1) := by decide +kernel
theorem dX4_pointer_34 : decode cX4_pointer 34 = .ok (.iaload, 1) := by decide +kernel
theorem dX4_pointer_35 : decode cX4_pointer 35 = .ok (.iconst 1, 1) := by decide +kernel
theorem dX4_pointer_36 : decode cX4_pointer 36 = .ok (.aload_n 0, 1) := by decide +kernel
theorem dX4_pointer_37 : decode cX4_pointer 37 = .ok (.getfield 40, 3) := by decide +kernel
theorem dX4_pointer_40 : decode cX4_pointer 40 = .ok (.iload_n 1, 1) := by decide +kernel
theorem dX4_pointer_41 : decode cX4_pointer 41 = .ok (.iaload, 1) := by decide +kernel
theorem dX4_pointer_42 : decode cX4_pointer 42 = .ok (.ishl, 1) := by decide +kernel
theorem dX4_pointer_43 : decode cX4_pointer 43 = .ok (.iconst (-1), 1) := by decide +kernel
theorem dX4_pointer_44 : decode cX4_pointer 44 = .ok (.ixor, 1) := by decide +kernel
theorem dX4_pointer_45 : decode cX4_pointer 45 = .ok (.iand, 1) := by decide +kernel
theorem dX4_pointer_46 : decode cX4_pointer 46 = .ok (.invokevirtual 118, 3) := by decide +kernel
theorem dX4_pointer_49 : decode cX4_pointer 49 = .ok (.ifCond .ne 7, 3) := by decide +kernel
theorem dX4_pointer_52 : decode cX4_pointer 52 = .ok (.iconst 1, 1) := by decide +kernel
theorem dX4_pointer_53 : decode cX4_pointer 53 = .ok (.goto 4, 3) := by decide +kernel
theorem dX4_pointer_56 : decode cX4_pointer 56 = .ok (.iconst 0, 1) := by decide +kernel
theorem dX4_pointer_57 : decode cX4_pointer 57 = .ok (.istore 5, 2) := by decide +kernel
theorem dX4_pointer_59 : decode cX4_pointer 59 = .ok (.iconst 0, 1) := by decide +kernel
theorem dX4_pointer_60 : decode cX4_pointer 60 = .ok (.istore 6, 2) := by decide +kernel
theorem dX4_pointer_62 : decode cX4_pointer 62 = .ok (.iload 6, 2) := by decide +kernel
theorem dX4_pointer_64 : decode cX4_pointer 64 = .ok (.aload_n 0, 1) := by decide +kernel
theorem dX4_pointer_65 : decode cX4_pointer 65 = .ok (.getfield 74, 3) := by decide +kernel
theorem dX4_pointer_68 : decode cX4_pointer 68 = .ok (.if_icmp .ge 44, 3) := by decide +kernel
theorem dX4_pointer_71 : decode cX4_pointer 71 = .ok (.iload 5, 2) := by decide +kernel
theorem dX4_pointer_73 : decode cX4_pointer 73 = .ok (.ifCond .eq 39, 3) := by decide +kernel
theorem dX4_pointer_76 : decode cX4_pointer 76 = .ok (.iload 6, 2) := by decide +kernel
theorem dX4_pointer_78 : decode cX4_pointer 78 = .ok (.iload_n 1, 1) := by decide +kernel
theorem dX4_pointer_79 : decode cX4_pointer 79 = .ok (.if_icmp .eq 27, 3) := by decide +kernel
theorem dX4_pointer_82 : decode cX4_pointer 82 = .ok (.iload_n 2, 1) := by decide +kernel
theorem dX4_pointer_83 : decode cX4_pointer 83 = .ok (.iload 6, 2) := by decide +kernel
theorem dX4_pointer_85 : decode cX4_pointer 85 = .ok (.invokestatic 84, 3) := by decide +kernel
theorem dX4_pointer_88 : decode cX4_pointer 88 = .ok (.ifCond .eq 18, 3) := by decide +kernel
theorem dX4_pointer_91 : decode cX4_pointer 91 = .ok (.aload_n 0, 1) := by decide +kernel
theorem dX4_pointer_92 : decode cX4_pointer 92 = .ok (.getfield 40, 3) := by decide +kernel
theorem dX4_pointer_95 : decode cX4_pointer 95 = .ok (.iload 6, 2) := by decide +kernel
theorem dX4_pointer_97 : decode cX4_pointer 97 = .ok (.iaload, 1) := by decide +kernel
theorem dX4_pointer_98 : decode cX4_pointer 98 = .ok (.iload 4, 2) := by decide +kernel
theorem dX4_pointer_100 : decode cX4_pointer 100 = .ok (.if_icmp .ne 6, 3) := by decide +kernel
theorem dX4_pointer_103 : decode cX4_pointer 103 = .ok (.iload 6, 2) := by decide +kernel
theorem dX4_pointer_105 : decode cX4_pointer 105 = .ok (.ireturn, 1) := by decide +kernel
theorem dX4_pointer_106 : decode cX4_pointer 106 = .ok (.iinc 6 1, 3) := by decide +kernel
theorem dX4_pointer_109 : decode cX4_pointer 109 = .ok (.goto (-47), 3) := by decide +kernel
theorem dX4_pointer_112 : decode cX4_pointer 112 = .ok (.iinc 3 1, 3) := by decide +kernel
theorem dX4_pointer_115 : decode cX4_pointer 115 = .ok (.goto (-113), 3) := by decide +kernel
theorem dX4_pointer_118 : decode cX4_pointer 118 = .ok (.iload_n 1, 1) := by decide +kernel
theorem dX4_pointer_119 : decode cX4_pointer 119 = .ok (.ireturn, 1) := by decide +kernel
theorem dX4_pointsTo_0 : decode cX4_pointsTo 0 = .ok (.aload_n 0, 1) := by decide +kernel
theorem dX4_pointsTo_1 : decode cX4_pointsTo 1 = .ok (.aload_n 0, 1) := by decide +kernel
theorem dX4_pointsTo_2 : decode cX4_pointsTo 2 = .ok (.iload_n 1, 1) := by decide +kernel
theorem dX4_pointsTo_3 : decode cX4_pointsTo 3 = .ok (.invokevirtual 77, 3) := by decide +kernel
theorem dX4_pointsTo_6 : decode cX4_pointsTo 6 = .ok (.ifCond .ne 7, 3) := by decide +kernel
theorem dX4_pointsTo_9 : decode cX4_pointsTo 9 = .ok (.iconst 1, 1) := by decide +kernel
theorem dX4_pointsTo_10 : decode cX4_pointsTo 10 = .ok (.goto 18, 3) := by decide +kernel
theorem dX4_pointsTo_13 : decode cX4_pointsTo 13 = .ok (.aload_n 0, 1) := by decide +kernel
theorem dX4_pointsTo_14 : decode cX4_pointsTo 14 = .ok (.getfield 40, 3) := by decide +kernel
theorem dX4_pointsTo_17 : decode cX4_pointsTo 17 = .ok (.iload_n 1, 1) := by decide +kernel
theorem dX4_pointsTo_18 : decode cX4_pointsTo 18 = .ok (.iaload, 1) := by decide +kernel
theorem dX4_pointsTo_19 : decode cX4_pointsTo 19 = .ok (.iconst (-1), 1) := by decide +kernel
theorem dX4_pointsTo_20 : decode cX4_pointsTo 20 = .ok (.if_icmp .ne 7, 3) := by decide +kernel
theorem dX4_pointsTo_23 : decode cX4_pointsTo 23 = .ok (.iconst 2, 1) := by decide +kernel
theorem dX4_pointsTo_24 : decode cX4_pointsTo 24 = .ok (.goto 4, 3) := by decide +kernel
theorem dX4_pointsTo_27 : decode cX4_pointsTo 27 = .ok (.iconst 0, 1) := by decide +kernel
theorem dX4_pointsTo_28 : decode cX4_pointsTo 28 = .ok (.putfield 68, 3) := by decide +kernel
theorem dX4_pointsTo_31 : decode cX4_pointsTo 31 = .ok (.aload_n 0, 1) := by decide +kernel
theorem dX4_pointsTo_32 : decode cX4_pointsTo 32 = .ok (.getfield 68, 3) := by decide +kernel
theorem dX4_pointsTo_35 : decode cX4_pointsTo 35 = .ok (.ifCond .ne 15, 3) := by decide +kernel
theorem dX4_pointsTo_38 : decode cX4_pointsTo 38 = .ok (.aload_n 0, 1) := by decide +kernel
theorem dX4_pointsTo_39 : decode cX4_pointsTo 39 = .ok (.iload_n 1, 1) := by decide +kernel
theorem dX4_pointsTo_40 : decode cX4_pointsTo 40 = .ok (.aload_n 0, 1) := by decide +kernel
theorem dX4_pointsTo_41 : decode cX4_pointsTo 41 = .ok (.invokevirtual 156, 3) := by decide +kernel
theorem dX4_pointsTo_44 : decode cX4_pointsTo 44 = .ok (.invokevirtual 159, 3) := by decide +kernel
theorem dX4_pointsTo_47 : decode cX4_pointsTo 47 = .ok (.goto 4, 3) := by decide +kernel
theorem dX4_pointsTo_50 : decode cX4_pointsTo 50 = .ok (.iconst 0, 1) := by decide +kernel
theorem dX4_pointsTo_51 : decode cX4_pointsTo 51 = .ok (.ireturn, 1) := by decide +kernel
theorem dX4_isOnCircle_0 : decode cX4_isOnCircle 0 = .ok (.aload_n 0, 1) := by decide +kernel
theorem dX4_isOnCircle_1 : decode cX4_isOnCircle 1 = .ok (.getfield 58, 3) := by decide +kernel
theorem dX4_isOnCircle_4 : decode cX4_isOnCircle 4 = .ok (.iload_n 1, 1) := by decide +kernel
theorem dX4_isOnCircle_5 : decode cX4_isOnCircle 5 = .ok (.iaload, 1) := by decide +kernel
theorem dX4_isOnCircle_6 : decode cX4_isOnCircle 6 = .ok (.istore_n 2, 1) := by decide +kernel
theorem dX4_isOnCircle_7 : decode cX4_isOnCircle 7 = .ok (.iconst 0, 1) := by decide +kernel
theorem dX4_isOnCircle_8 : decode cX4_isOnCircle 8 = .ok (.istore_n 3, 1) := by decide +kernel
theorem dX4_isOnCircle_9 : decode cX4_isOnCircle 9 = .ok (.iload_n 3, 1) := by decide +kernel
theorem dX4_isOnCircle_10 : decode cX4_isOnCircle 10 = .ok (.bipush 16, 2) := by decide +kernel
theorem dX4_isOnCircle_12 : decode cX4_isOnCircle 12 = .ok (.if_icmp .ge 21, 3) := by decide +kernel
theorem dX4_isOnCircle_15 : decode cX4_isOnCircle 15 = .ok (.iload_n 2, 1) := by decide +kernel
theorem dX4_isOnCircle_16 : decode cX4_isOnCircle 16 = .ok (.iload_n 1, 1) := by decide +kernel
theorem dX4_isOnCircle_17 : decode cX4_isOnCircle 17 = .ok (.if_icmp .eq 16, 3) := by decide +kernel
theorem dX4_isOnCircle_20 : decode cX4_isOnCircle 20 = .ok (.aload_n 0, 1) := by decide +kernel
theorem dX4_isOnCircle_21 : decode cX4_isOnCircle 21 = .ok (.getfield 58, 3) := by decide +kernel
theorem dX4_isOnCircle_24 : decode cX4_isOnCircle 24 = .ok (.iload_n 2, 1) := by decide +kernel
theorem dX4_isOnCircle_25 : decode cX4_isOnCircle 25 = .ok (.iaload, 1) := by decide +kernel
theorem dX4_isOnCircle_26 : decode cX4_isOnCircle 26 = .ok (.istore_n 2, 1) := by decide +kernel
theorem dX4_isOnCircle_27 : decode cX4_isOnCircle 27 = .ok (.iinc 3 1, 3) := by decide +kernel
theorem dX4_isOnCircle_30 : decode cX4_isOnCircle 30 = .ok (.goto (-21), 3) := by decide +kernel
theorem dX4_isOnCircle_33 : decode cX4_isOnCircle 33 = .ok (.iload_n 2, 1) := by decide +kernel
theorem dX4_isOnCircle_34 : decode cX4_isOnCircle 34 = .ok (.iload_n 1, 1) := by decide +kernel
theorem dX4_isOnCircle_35 : decode cX4_isOnCircle 35 = .ok (.if_icmp .ne 7, 3) := by decide +kernel
theorem dX4_isOnCircle_38 : decode cX4_isOnCircle 38 = .ok (.iconst 1, 1) := by decide +kernel
theorem dX4_isOnCircle_39 : decode cX4_isOnCircle 39 = .ok (.goto 4, 3) := by decide +kernel
theorem dX4_isOnCircle_42 : decode cX4_isOnCircle 42 = .ok (.iconst 0, 1) := by decide +kernel
theorem dX4_isOnCircle_43 : decode cX4_isOnCircle 43 = .ok (.ireturn, 1) := by decide +kernel
theorem dX4_circles_0 : decode cX4_circles 0 = .ok (.iload_n 1, 1) := by decide +kernel
theorem dX4_circles_1 : decode cX4_circles 1 = .ok (.istore_n 2, 1) := by decide +kernel
theorem dX4_circles_2 : decode cX4_circles 2 = .ok (.iconst 0, 1) := by decide +kernel
theorem dX4_circles_3 : decode cX4_circles 3 = .ok (.istore_n 3, 1) := by decide +kernel
theorem dX4_circles_4 : decode cX4_circles 4 = .ok (.iload_n 3, 1) := by decide +kernel
theorem dX4_circles_5 : decode cX4_circles 5 = .ok (.aload_n 0, 1) := by decide +kernel
theorem dX4_circles_6 : decode cX4_circles 6 = .ok (.getfield 74, 3) := by decide +kernel
theorem dX4_circles_9 : decode cX4_circles 9 = .ok (.if_icmp .ge 33, 3) := by decide +kernel
theorem dX4_circles_12 : decode cX4_circles 12 = .ok (.aload_n 0, 1) := by decide +kernel
theorem dX4_circles_13 : decode cX4_circles 13 = .ok (.getfield 58, 3) := by decide +kernel
theorem dX4_circles_16 : decode cX4_circles 16 = .ok (.iload_n 3, 1) := by decide +kernel
theorem dX4_circles_17 : decode cX4_circles 17 = .ok (.iload_n 1, 1) := by decide +kernel
theorem dX4_circles_18 : decode cX4_circles 18 = .ok (.iload_n 3, 1) := by decide +kernel
theorem dX4_circles_19 : decode cX4_circles 19 = .ok (.invokestatic 84, 3) := by decide +kernel
theorem dX4_circles_22 : decode cX4_circles 22 = .ok (.ifCond .eq 12, 3) := by decide +kernel
theorem dX4_circles_25 : decode cX4_circles 25 = .ok (.aload_n 0, 1) := by decide +kernel
theorem dX4_circles_26 : decode cX4_circles 26 = .ok (.iload_n 3, 1) := by decide +kernel
theorem dX4_circles_27 : decode cX4_circles 27 = .ok (.iload_n 1, 1) := by decide +kernel
theorem dX4_circles_28 : decode cX4_circles 28 = .ok (.invokevirtual 159, 3) := by decide +kernel
theorem dX4_circles_31 : decode cX4_circles 31 = .ok (.goto 4, 3) := by decide +kernel
theorem dX4_circles_34 : decode cX4_circles 34 = .ok (.iload_n 3, 1) := by decide +kernel
theorem dX4_circles_35 : decode cX4_circles 35 = .ok (.iastore, 1) := by decide +kernel
theorem dX4_circles_36 : decode cX4_circles 36 = .ok (.iinc 3 1, 3) := by decide +kernel
theorem dX4_circles_39 : decode cX4_circles 39 = .ok (.goto (-35), 3) := by decide +kernel
theorem dX4_circles_42 : decode cX4_circles 42 = .ok (.iconst 0, 1) := by decide +kernel
theorem dX4_circles_43 : decode cX4_circles 43 = .ok (.istore_n 3, 1) := by decide +kernel
theorem dX4_circles_44 : decode cX4_circles 44 = .ok (.iload_n 3, 1) := by decide +kernel
theorem dX4_circles_45 : decode cX4_circles 45 = .ok (.aload_n 0, 1) := by decide +kernel
theorem dX4_circles_46 : decode cX4_circles 46 = .ok (.getfield 74, 3) := by decide +kernel
theorem dX4_circles_49 : decode cX4_circles 49 = .ok (.if_icmp .ge 45, 3) := by decide +kernel
theorem dX4_circles_52 : decode cX4_circles 52 = .ok (.iload_n 1, 1) := by decide +kernel
theorem dX4_circles_53 : decode cX4_circles 53 = .ok (.iload_n 3, 1) := by decide +kernel
theorem dX4_circles_54 : decode cX4_circles 54 = .ok (.invokestatic 84, 3) := by decide +kernel
theorem dX4_circles_57 : decode cX4_circles 57 = .ok (.ifCond .eq 31, 3) := by decide +kernel
theorem dX4_circles_60 : decode cX4_circles 60 = .ok (.aload_n 0, 1) := by decide +kernel
theorem dX4_circles_61 : decode cX4_circles 61 = .ok (.iload_n 3, 1) := by decide +kernel
theorem dX4_circles_62 : decode cX4_circles 62 = .ok (.invokevirtual 162, 3) := by decide +kernel
theorem dX4_circles_65 : decode cX4_circles 65 = .ok (.ifCond .eq 23, 3) := by decide +kernel
theorem dX4_circles_68 : decode cX4_circles 68 = .ok (.aload_n 0, 1) := by decide +kernel
theorem dX4_circles_69 : decode cX4_circles 69 = .ok (.getfield 61, 3) := by decide +kernel
theorem dX4_circles_72 : decode cX4_circles 72 = .ok (.iload_n 3, 1) := by decide +kernel
theorem dX4_circles_73 : decode cX4_circles 73 = .ok (.aload_n 0, 1) := by decide +kernel
theorem dX4_circles_74 : decode cX4_circles 74 = .ok (.getfield 58, 3) := by decide +kernel
theorem dX4_circles_77 : decode cX4_circles 77 = .ok (.iload_n 3, 1) := by decide +kernel
theorem dX4_circles_78 : decode cX4_circles 78 = .ok (.iaload, 1) := by decide +kernel
theorem dX4_circles_79 : decode cX4_circles 79 = .ok (.iastore, 1) := by decide +kernel
theorem dX4_circles_80 : decode cX4_circles 80 = .ok (.iload_n 2, 1) := by decide +kernel
theorem dX4_circles_81 : decode cX4_circles 81 = .ok (.iconst 1, 1) := by decide +kernel
theorem dX4_circles_82 : decode cX4_circles 82 = .ok (.iload_n 3, 1) := by decide +kernel
theorem dX4_circles_83 : decode cX4_circles 83 = .ok (.ishl, 1) := by decide +kernel
theorem dX4_circles_84 : decode cX4_circles 84 = .ok (.iconst (-1), 1) := by decide +kernel
theorem dX4_circles_85 : decode cX4_circles 85 = .ok (.ixor, 1) := by decide +kernel
theorem dX4_circles_86 : decode cX4_circles 86 = .ok (.iand, 1) := by decide +kernel
theorem dX4_circles_87 : decode cX4_circles 87 = .ok (.istore_n 2, 1) := by decide +kernel
theorem dX4_circles_88 : decode cX4_circles 88 = .ok (.iinc 3 1, 3) := by decide +kernel
theorem dX4_circles_91 : decode cX4_circles 91 = .ok (.goto (-47), 3) := by decide +kernel
theorem dX4_circles_94 : decode cX4_circles 94 = .ok (.iload_n 2, 1) := by decide +kernel
theorem dX4_circles_95 : decode cX4_circles 95 = .ok (.ireturn, 1) := by decide +kernel
theorem dX4_runExchange_0 : decode cX4_runExchange 0 = .ok (.aload_n 0, 1) := by decide +kernel
theorem dX4_runExchange_1 : decode cX4_runExchange 1 = .ok (.iconst 0, 1) := by decide +kernel
theorem dX4_runExchange_2 : decode cX4_runExchange 2 = .ok (.putfield 68, 3) := by decide +kernel
theorem dX4_runExchange_5 : decode cX4_runExchange 5 = .ok (.iconst 0, 1) := by decide +kernel
theorem dX4_runExchange_6 : decode cX4_runExchange 6 = .ok (.istore_n 1, 1) := by decide +kernel
theorem dX4_runExchange_7 : decode cX4_runExchange 7 = .ok (.iload_n 1, 1) := by decide +kernel
theorem dX4_runExchange_8 : decode cX4_runExchange 8 = .ok (.aload_n 0, 1) := by decide +kernel
theorem dX4_runExchange_9 : decode cX4_runExchange 9 = .ok (.getfield 74, 3) := by decide +kernel
theorem dX4_runExchange_12 : decode cX4_runExchange 12 = .ok (.if_icmp .ge 16, 3) := by decide +kernel
theorem dX4_runExchange_15 : decode cX4_runExchange 15 = .ok (.aload_n 0, 1) := by decide +kernel
theorem dX4_runExchange_16 : decode cX4_runExchange 16 = .ok (.getfield 61, 3) := by decide +kernel
theorem dX4_runExchange_19 : decode cX4_runExchange 19 = .ok (.iload_n 1, 1) := by decide +kernel
theorem dX4_runExchange_20 : decode cX4_runExchange 20 = .ok (.iload_n 1, 1) := by decide +kernel
theorem dX4_runExchange_21 : decode cX4_runExchange 21 = .ok (.iastore, 1) := by decide +kernel
theorem dX4_runExchange_22 : decode cX4_runExchange 22 = .ok (.iinc 1 1, 3) := by decide +kernel
theorem dX4_runExchange_25 : decode cX4_runExchange 25 = .ok (.goto (-18), 3) := by decide +kernel
theorem dX4_runExchange_28 : decode cX4_runExchange 28 = .ok (.aload_n 0, 1) := by decide +kernel
theorem dX4_runExchange_29 : decode cX4_runExchange 29 = .ok (.invokevirtual 156, 3) := by decide +kernel
theorem dX4_runExchange_32 : decode cX4_runExchange 32 = .ok (.istore_n 1, 1) := by decide +kernel
theorem dX4_runExchange_33 : decode cX4_runExchange 33 = .ok (.iconst 0, 1) := by decide +kernel
theorem dX4_runExchange_34 : decode cX4_runExchange 34 = .ok (.istore_n 2, 1) := by decide +kernel
theorem dX4_runExchange_35 : decode cX4_runExchange 35 = .ok (.iload_n 2, 1) := by decide +kernel
theorem dX4_runExchange_36 : decode cX4_runExchange 36 = .ok (.bipush 16, 2) := by decide +kernel
theorem dX4_runExchange_38 : decode cX4_runExchange 38 = .ok (.if_icmp .ge 19, 3) := by decide +kernel
theorem dX4_runExchange_41 : decode cX4_runExchange 41 = .ok (.iload_n 1, 1) := by decide +kernel
theorem dX4_runExchange_42 : decode cX4_runExchange 42 = .ok (.ifCond .eq 15, 3) := by decide +kernel
theorem dX4_runExchange_45 : decode cX4_runExchange 45 = .ok (.aload_n 0, 1) := by decide +kernel
theorem dX4_runExchange_46 : decode cX4_runExchange 46 = .ok (.iload_n 1, 1) := by decide +kernel
theorem dX4_runExchange_47 : decode cX4_runExchange 47 = .ok (.invokevirtual 165, 3) := by decide +kernel
theorem dX4_runExchange_50 : decode cX4_runExchange 50 = .ok (.istore_n 1, 1) := by decide +kernel
theorem dX4_runExchange_51 : decode cX4_runExchange 51 = .ok (.iinc 2 1, 3) := by decide +kernel
theorem dX4_runExchange_54 : decode cX4_runExchange 54 = .ok (.goto (-19), 3) := by decide +kernel
theorem dX4_runExchange_57 : decode cX4_runExchange 57 = .ok (.iconst 0, 1) := by decide +kernel
theorem dX4_runExchange_58 : decode cX4_runExchange 58 = .ok (.istore_n 2, 1) := by decide +kernel
theorem dX4_runExchange_59 : decode cX4_runExchange 59 = .ok (.iconst 0, 1) := by decide +kernel
theorem dX4_runExchange_60 : decode cX4_runExchange 60 = .ok (.istore_n 3, 1) := by decide +kernel
theorem dX4_runExchange_61 : decode cX4_runExchange 61 = .ok (.iload_n 3, 1) := by decide +kernel
theorem dX4_runExchange_62 : decode cX4_runExchange 62 = .ok (.aload_n 0, 1) := by decide +kernel
theorem dX4_runExchange_63 : decode cX4_runExchange 63 = .ok (.getfield 74, 3) := by decide +kernel
theorem dX4_runExchange_66 : decode cX4_runExchange 66 = .ok (.if_icmp .ge 40, 3) := by decide +kernel
theorem dX4_runExchange_69 : decode cX4_runExchange 69 = .ok (.aload_n 0, 1) := by decide +kernel
theorem dX4_runExchange_70 : decode cX4_runExchange 70 = .ok (.getfield 58, 3) := by decide +kernel
theorem dX4_runExchange_73 : decode cX4_runExchange 73 = .ok (.iload_n 3, 1) := by decide +kernel
theorem dX4_runExchange_74 : decode cX4_runExchange 74 = .ok (.aload_n 0, 1) := by decide +kernel
theorem dX4_runExchange_75 : decode cX4_runExchange 75 = .ok (.getfield 61, 3) := by decide +kernel
theorem dX4_runExchange_78 : decode cX4_runExchange 78 = .ok (.iload_n 3, 1) := by decide +kernel
theorem dX4_runExchange_79 : decode cX4_runExchange 79 = .ok (.iaload, 1) := by decide +kernel
theorem dX4_runExchange_80 : decode cX4_runExchange 80 = .ok (.iload_n 3, 1) := by decide +kernel
theorem dX4_runExchange_81 : decode cX4_runExchange 81 = .ok (.if_icmp .ne 7, 3) := by decide +kernel
theorem dX4_runExchange_84 : decode cX4_runExchange 84 = .ok (.iconst (-1), 1) := by decide +kernel
theorem dX4_runExchange_85 : decode cX4_runExchange 85 = .ok (.goto 14, 3) := by decide +kernel
theorem dX4_runExchange_88 : decode cX4_runExchange 88 = .ok (.aload_n 0, 1) := by decide +kernel
theorem dX4_runExchange_89 : decode cX4_runExchange 89 = .ok (.getfield 40, 3) := by decide +kernel
theorem dX4_runExchange_92 : decode cX4_runExchange 92 = .ok (.aload_n 0, 1) := by decide +kernel
theorem dX4_runExchange_93 : decode cX4_runExchange 93 = .ok (.getfield 61, 3) := by decide +kernel
theorem dX4_runExchange_96 : decode cX4_runExchange 96 = .ok (.iload_n 3, 1) := by decide +kernel
theorem dX4_runExchange_97 : decode cX4_runExchange 97 = .ok (.iaload, 1) := by decide +kernel
theorem dX4_runExchange_98 : decode cX4_runExchange 98 = .ok (.iaload, 1) := by decide +kernel
theorem dX4_runExchange_99 : decode cX4_runExchange 99 = .ok (.iastore, 1) := by decide +kernel
theorem dX4_runExchange_100 : decode cX4_runExchange 100 = .ok (.iinc 3 1, 3) := by decide +kernel
theorem dX4_runExchange_103 : decode cX4_runExchange 103 = .ok (.goto (-42), 3) := by decide +kernel
theorem dX4_runExchange_106 : decode cX4_runExchange 106 = .ok (.iconst 0, 1) := by decide +kernel
theorem dX4_runExchange_107 : decode cX4_runExchange 107 = .ok (.istore_n 3, 1) := by decide +kernel
theorem dX4_runExchange_108 : decode cX4_runExchange 108 = .ok (.iload_n 3, 1) := by decide +kernel
theorem dX4_runExchange_109 : decode cX4_runExchange 109 = .ok (.aload_n 0, 1) := by decide +kernel
theorem dX4_runExchange_110 : decode cX4_runExchange 110 = .ok (.getfield 74, 3) := by decide +kernel
theorem dX4_runExchange_113 : decode cX4_runExchange 113 = .ok (.if_icmp .ge 44, 3) := by decide +kernel
theorem dX4_runExchange_116 : decode cX4_runExchange 116 = .ok (.aload_n 0, 1) := by decide +kernel
theorem dX4_runExchange_117 : decode cX4_runExchange 117 = .ok (.getfield 58, 3) := by decide +kernel
theorem dX4_runExchange_120 : decode cX4_runExchange 120 = .ok (.iload_n 3, 1) := by decide +kernel
theorem dX4_runExchange_121 : decode cX4_runExchange 121 = .ok (.iaload, 1) := by decide +kernel
theorem dX4_runExchange_122 : decode cX4_runExchange 122 = .ok (.iconst (-1), 1) := by decide +kernel
theorem dX4_runExchange_123 : decode cX4_runExchange 123 = .ok (.if_icmp .eq 28, 3) := by decide +kernel
theorem dX4_runExchange_126 : decode cX4_runExchange 126 = .ok (.aload_n 0, 1) := by decide +kernel
theorem dX4_runExchange_127 : decode cX4_runExchange 127 = .ok (.iload_n 3, 1) := by decide +kernel
theorem dX4_runExchange_128 : decode cX4_runExchange 128 = .ok (.aload_n 0, 1) := by decide +kernel
theorem dX4_runExchange_129 : decode cX4_runExchange 129 = .ok (.getfield 40, 3) := by decide +kernel
theorem dX4_runExchange_132 : decode cX4_runExchange 132 = .ok (.iload_n 3, 1) := by decide +kernel
theorem dX4_runExchange_133 : decode cX4_runExchange 133 = .ok (.iaload, 1) := by decide +kernel
theorem dX4_runExchange_134 : decode cX4_runExchange 134 = .ok (.invokevirtual 135, 3) := by decide +kernel
theorem dX4_runExchange_137 : decode cX4_runExchange 137 = .ok (.aload_n 0, 1) := by decide +kernel
theorem dX4_runExchange_138 : decode cX4_runExchange 138 = .ok (.iload_n 3, 1) := by decide +kernel
theorem dX4_runExchange_139 : decode cX4_runExchange 139 = .ok (.aload_n 0, 1) := by decide +kernel
theorem dX4_runExchange_140 : decode cX4_runExchange 140 = .ok (.getfield 58, 3) := by decide +kernel
theorem dX4_runExchange_143 : decode cX4_runExchange 143 = .ok (.iload_n 3, 1) := by decide +kernel
theorem dX4_runExchange_144 : decode cX4_runExchange 144 = .ok (.iaload, 1) := by decide +kernel
theorem dX4_runExchange_145 : decode cX4_runExchange 145 = .ok (.invokevirtual 132, 3) := by decide +kernel
theorem dX4_runExchange_148 : decode cX4_runExchange 148 = .ok (.iinc 2 1, 3) := by decide +kernel
theorem dX4_runExchange_151 : decode cX4_runExchange 151 = .ok (.iinc 3 1, 3) := by decide +kernel
theorem dX4_runExchange_154 : decode cX4_runExchange 154 = .ok (.goto (-46), 3) := by decide +kernel
theorem dX4_runExchange_157 : decode cX4_runExchange 157 = .ok (.aload_n 0, 1) := by decide +kernel
theorem dX4_runExchange_158 : decode cX4_runExchange 158 = .ok (.invokevirtual 123, 3) := by decide +kernel
theorem dX4_runExchange_161 : decode cX4_runExchange 161 = .ok (.iload_n 2, 1) := by decide +kernel
theorem dX4_runExchange_162 : decode cX4_runExchange 162 = .ok (.ireturn, 1) := by decide +kernel
end
section
/-! THE WORLD: one state of the class (τ), one of the reference (μ), the law's out row (o). A state is a function: cell, slot to int. Cells of the class: 0 the object, 1 its row of courses, 2 of students, 3 turns, 4.. courses, 24.. students, 40.. rows (20 of courses, 16 of students), 76.. their items, 112.. offer days. Cells of the reference: 132 the object, 133..150 its arrays; 151 the out row. -/
abbrev gw_S : Type := Nat → Nat → Int32
def gw_up (σ : gw_S) (k j : Nat) (v : Int32) : gw_S := fun k' j' => if k' = k ∧ j' = j then v else σ k' j'
theorem gw_up_s (σ : gw_S) (k j : Nat) (v : Int32) : gw_up σ k j v k j = v := if_pos ⟨rfl, rfl⟩
theorem gw_up_n {σ : gw_S} {k j k' j' : Nat} {v : Int32} (h : ¬ (k' = k ∧ j' = j)) : gw_up σ k j v k' j' = σ k' j' := if_neg h
theorem gw_up_row (σ : gw_S) (k j : Nat) (v : Int32) : gw_up σ k j v k = upd (σ k) j v := by
  funext i
  by_cases h : i = j <;> simp [gw_up, upd, h]
theorem gw_up_rown {σ : gw_S} {k j k' : Nat} {v : Int32} (h : k' ≠ k) : gw_up σ k j v k' = σ k' := by
  funext i
  simp [gw_up, h]
abbrev gw_G : Type := Nat × (Nat → Nat) × (Nat → ClassId) × va_G × (Nat → Nat)
abbrev gw_N (Γ : gw_G) : Nat := Γ.1
abbrev gw_a (Γ : gw_G) : Nat → Nat := Γ.2.1
abbrev gw_y (Γ : gw_G) : Nat → ClassId := Γ.2.2.1
abbrev gw_D (Γ : gw_G) : va_G := Γ.2.2.2.1
abbrev gw_sa (Γ : gw_G) : Nat → Nat := Γ.2.2.2.2
def gw_A (Γ : gw_G) : Nat → Prop := fun q => gw_N Γ ≤ q
def gw_len (k : Nat) : Nat := if 96 ≤ k ∧ k < 112 then 6 else 16
def gw_ml (j : Nat) : Nat := if j ≤ 4 then 20 else if j = 10 then 96 else if j = 13 ∨ j = 16 then 20 else if j = 14 ∨ j = 15 then 320 else 16
def gw_fM (Γ : gw_G) (r : Nat → Int32) : List Value := [.ref (gw_a Γ 1), .ref (gw_a Γ 2), .int (r 2), .int (r 3), .int (r 4), .ref (gw_a Γ 3)]
def gw_fC (Γ : gw_G) (k : Nat) (r : Nat → Int32) : List Value := [.int (r 0), .ref (gw_a Γ (k + 36)), .ref (gw_a Γ (k + 108)), .int (r 3), .int (r 4), .int (r 5), .int (r 6), .int (r 7)]
def gw_fS (Γ : gw_G) (k : Nat) (r : Nat → Int32) : List Value := [.int (r 0), .ref (gw_a Γ (k + 36)), .int (r 2), .int (r 3), .int (r 4), .int (r 5), .int (r 6), .int (r 7), .int (r 8), .int (r 9)]
def gw_fR (Γ : gw_G) (k : Nat) (r : Nat → Int32) : List Value := [.ref (gw_a Γ (k + 36)), .int (r 1)]
def gw_fD (Γ : gw_G) (r : Nat → Int32) : List Value := [.int (r 0), .ref (gw_a Γ 133), .ref (gw_a Γ 134), .ref (gw_a Γ 135), .ref (gw_a Γ 136), .int (r 5), .ref (gw_a Γ 137), .ref (gw_a Γ 138), .ref (gw_a Γ 139), .ref (gw_a Γ 140), .ref (gw_a Γ 141), .ref (gw_a Γ 142), .ref (gw_a Γ 143), .ref (gw_a Γ 144), .ref (gw_a Γ 145), .ref (gw_a Γ 146), .ref (gw_a Γ 147), .int (r 17), .int (r 18), .ref (gw_a Γ 148), .ref (gw_a Γ 149), .ref (gw_a Γ 150)]
/-- a cell of the class -/
def gw_ec (Γ : gw_G) (k : Nat) (r : Nat → Int32) : va_E :=
  if k < 4 then (if k = 0 then .inr (3, gw_fM Γ r) else if k = 1 then .inl (gw_y Γ 1, 20, .inr (.inr (.inr (.inr (fun i => some (gw_a Γ (4 + i))))))) else if k = 2 then .inl (gw_y Γ 2, 16, .inr (.inr (.inr (.inr (fun i => some (gw_a Γ (24 + i))))))) else .inl (gw_y Γ 0, gw_len k, .inl r))
  else if k < 24 then .inr (0, gw_fC Γ k r)
  else if k < 40 then .inr (2, gw_fS Γ k r)
  else if k < 76 then .inr (1, gw_fR Γ k r)
  else .inl (gw_y Γ 0, gw_len k, .inl r)
/-- a cell of the reference -/
def gw_em (Γ : gw_G) (j : Nat) (r : Nat → Int32) : va_E := if j = 0 then .inr (4, gw_fD Γ r) else .inl (gw_y Γ 0, gw_ml j, .inl r)
def gw_e (Γ : gw_G) (τ μ : gw_S) (o : Nat → Int64) (k : Nat) : va_E :=
  if k < 132 then gw_ec Γ k (τ k) else if k < 151 then gw_em Γ (k - 132) (μ (k - 132)) else .inl (gw_y Γ 3, 1, .inr (.inl o))
def gw_W (Γ : gw_G) (τ μ : gw_S) (o : Nat → Int64) : va_W := (List.range 152).map (fun k => (gw_a Γ k, gw_e Γ τ μ o k))
theorem gw_at {Γ : gw_G} {τ μ : gw_S} {o : Nat → Int64} {k : Nat} (h : k < 152) : (gw_W Γ τ μ o)[k]? = some (gw_a Γ k, gw_e Γ τ μ o k) := by
  simp [gw_W, h]
theorem gw_lenW {Γ : gw_G} {τ μ : gw_S} {o : Nat → Int64} : (gw_W Γ τ μ o).length = 152 := by simp [gw_W]
theorem gw_of {Γ : gw_G} {τ μ : gw_S} {o : Nat → Int64} {k : Nat} {q : Nat × va_E} (h : (gw_W Γ τ μ o)[k]? = some q) : k < 152 ∧ q = (gw_a Γ k, gw_e Γ τ μ o k) := by
  have hk : k < 152 := by
    have := (List.getElem?_eq_some_iff.mp h).1
    rwa [gw_lenW] at this
  rw [gw_at hk] at h
  exact ⟨hk, (Option.some.inj h).symm⟩
theorem gw_set {Γ : gw_G} {τ μ τ' μ' : gw_S} {o o' : Nat → Int64} {k : Nat} {e : va_E} (hk : k < 152) (h1 : gw_e Γ τ' μ' o' k = e) (h2 : ∀ j, j < 152 → j ≠ k → gw_e Γ τ' μ' o' j = gw_e Γ τ μ o j) : (gw_W Γ τ μ o).set k (gw_a Γ k, e) = gw_W Γ τ' μ' o' := by
  apply List.ext_getElem?
  intro j
  by_cases hj : j < 152
  · rw [gw_at hj]
    by_cases hjk : j = k
    · subst hjk
      rw [List.getElem?_set_self (by rw [gw_lenW]; exact hj), h1]
    · rw [List.getElem?_set_ne (Ne.symm hjk), gw_at hj, h2 j hj hjk]
  · rw [List.getElem?_eq_none (by rw [List.length_set, gw_lenW]; omega), List.getElem?_eq_none (by rw [gw_lenW]; omega)]
theorem gw_setC {Γ : gw_G} {τ μ : gw_S} {o : Nat → Int64} {k j : Nat} {v : Int32} {e : va_E} (hk : k < 132) (h1 : gw_ec Γ k (upd (τ k) j v) = e) : (gw_W Γ τ μ o).set k (gw_a Γ k, e) = gw_W Γ (gw_up τ k j v) μ o := by
  refine gw_set (by omega) ?_ (fun i hi hne => ?_)
  · rw [gw_e, if_pos hk, gw_up_row]; exact h1
  · by_cases h : i < 132
    · rw [gw_e, if_pos h, gw_e, if_pos h, gw_up_rown hne]
    · rw [gw_e, if_neg h, gw_e, if_neg h]
theorem gw_setM {Γ : gw_G} {τ μ : gw_S} {o : Nat → Int64} {i j : Nat} {v : Int32} {e : va_E} (hi : i < 19) (h1 : gw_em Γ i (upd (μ i) j v) = e) : (gw_W Γ τ μ o).set (132 + i) (gw_a Γ (132 + i), e) = gw_W Γ τ (gw_up μ i j v) o := by
  have hz : 132 + i - 132 = i := by omega
  refine gw_set (by omega) ?_ (fun q hq hne => ?_)
  · rw [gw_e, if_neg (by omega), if_pos (by omega), hz, gw_up_row]; exact h1
  · by_cases h : q < 132
    · rw [gw_e, if_pos h, gw_e, if_pos h]
    · by_cases h3 : q < 151
      · rw [gw_e, if_neg h, if_pos h3, gw_e, if_neg h, if_pos h3, gw_up_rown (by omega)]
      · rw [gw_e, if_neg h, if_neg h3, gw_e, if_neg h, if_neg h3]
theorem gw_setO {Γ : gw_G} {τ μ : gw_S} {o o' : Nat → Int64} : (gw_W Γ τ μ o).set 151 (gw_a Γ 151, .inl (gw_y Γ 3, 1, .inr (.inl o'))) = gw_W Γ τ μ o' := by
  refine gw_set (by decide) rfl (fun q hq hne => ?_)
  by_cases h : q < 132
  · rw [gw_e, if_pos h, gw_e, if_pos h]
  · rw [gw_e, if_neg h, if_pos (by omega), gw_e, if_neg h, if_pos (by omega)]
-- the cells, one by one
section gwCells
variable {Γ : gw_G} {τ μ : gw_S} {o : Nat → Int64} {k : Nat}
theorem gw_atM : (gw_W Γ τ μ o)[0]? = some (gw_a Γ 0, .inr (3, gw_fM Γ (τ 0))) := gw_at (by decide)
theorem gw_at1 : (gw_W Γ τ μ o)[1]? = some (gw_a Γ 1, .inl (gw_y Γ 1, 20, .inr (.inr (.inr (.inr (fun i => some (gw_a Γ (4 + i)))))))) := gw_at (by decide)
theorem gw_at2 : (gw_W Γ τ μ o)[2]? = some (gw_a Γ 2, .inl (gw_y Γ 2, 16, .inr (.inr (.inr (.inr (fun i => some (gw_a Γ (24 + i)))))))) := gw_at (by decide)
theorem gw_atD : (gw_W Γ τ μ o)[132]? = some (gw_a Γ 132, .inr (4, gw_fD Γ (μ 0))) := gw_at (by decide)
theorem gw_atO : (gw_W Γ τ μ o)[151]? = some (gw_a Γ 151, .inl (gw_y Γ 3, 1, .inr (.inl o))) := gw_at (by decide)
abbrev gw_kC (k : Nat) : Prop := 4 ≤ k ∧ k < 24
abbrev gw_kS (k : Nat) : Prop := 24 ≤ k ∧ k < 40
abbrev gw_kR (k : Nat) : Prop := 40 ≤ k ∧ k < 76
abbrev gw_kA (k : Nat) : Prop := k = 3 ∨ (76 ≤ k ∧ k < 132)
theorem gw_ecC {r : Nat → Int32} (h : gw_kC k) : gw_ec Γ k r = .inr (0, gw_fC Γ k r) := by
  rw [gw_ec, if_neg (by omega), if_pos h.2]
theorem gw_ecS {r : Nat → Int32} (h : gw_kS k) : gw_ec Γ k r = .inr (2, gw_fS Γ k r) := by
  rw [gw_ec, if_neg (by omega), if_neg (by omega), if_pos h.2]
theorem gw_ecR {r : Nat → Int32} (h : gw_kR k) : gw_ec Γ k r = .inr (1, gw_fR Γ k r) := by
  rw [gw_ec, if_neg (by omega), if_neg (by omega), if_neg (by omega), if_pos h.2]
theorem gw_ecA {r : Nat → Int32} (h : gw_kA k) : gw_ec Γ k r = .inl (gw_y Γ 0, gw_len k, .inl r) := by
  rcases h with rfl | h
  · rfl
  · rw [gw_ec, if_neg (by omega), if_neg (by omega), if_neg (by omega), if_neg (by omega)]
theorem gw_emA {r : Nat → Int32} {j : Nat} (h : 0 < j) : gw_em Γ j r = .inl (gw_y Γ 0, gw_ml j, .inl r) := by
  rw [gw_em, if_neg (by omega)]
theorem gw_atC (h : gw_kC k) : (gw_W Γ τ μ o)[k]? = some (gw_a Γ k, .inr (0, gw_fC Γ k (τ k))) := by
  rw [gw_at (by omega), gw_e, if_pos (by omega), gw_ecC h]
theorem gw_atS (h : gw_kS k) : (gw_W Γ τ μ o)[k]? = some (gw_a Γ k, .inr (2, gw_fS Γ k (τ k))) := by
  rw [gw_at (by omega), gw_e, if_pos (by omega), gw_ecS h]
theorem gw_atR (h : gw_kR k) : (gw_W Γ τ μ o)[k]? = some (gw_a Γ k, .inr (1, gw_fR Γ k (τ k))) := by
  rw [gw_at (by omega), gw_e, if_pos (by omega), gw_ecR h]
theorem gw_atA (h : gw_kA k) : (gw_W Γ τ μ o)[k]? = some (gw_a Γ k, .inl (gw_y Γ 0, gw_len k, .inl (τ k))) := by
  rw [gw_at (by omega), gw_e, if_pos (by omega), gw_ecA h]
theorem gw_atB {j : Nat} (h : 0 < j ∧ j < 19) : (gw_W Γ τ μ o)[132 + j]? = some (gw_a Γ (132 + j), .inl (gw_y Γ 0, gw_ml j, .inl (μ j))) := by
  rw [gw_at (by omega), gw_e, if_neg (by omega), if_pos (by omega), show 132 + j - 132 = j by omega, gw_emA h.1]
theorem gw_setA {i : Nat} {v : Int32} (h : gw_kA k) : (gw_W Γ τ μ o).set k (gw_a Γ k, .inl (gw_y Γ 0, gw_len k, .inl (upd (τ k) i v))) = gw_W Γ (gw_up τ k i v) μ o := gw_setC (by omega) (gw_ecA h)
theorem gw_setB {j i : Nat} {v : Int32} (h : 0 < j ∧ j < 19) : (gw_W Γ τ μ o).set (132 + j) (gw_a Γ (132 + j), .inl (gw_y Γ 0, gw_ml j, .inl (upd (μ j) i v))) = gw_W Γ τ (gw_up μ j i v) o := gw_setM h.2 (gw_emA h.1)
end gwCells
/-- the words that stay: of the tables alone -/
def gw_okw (w : Cond) : Bool := w.onTables && (w.keeps || match w with
  | .castable _ _ => true
  | _ => false)
def gw_L : List Cond := lw_tbl.filter gw_okw
theorem gw_in {w : Cond} (i : Nat) (h : lw_tbl[i]? = some w) (ok : gw_okw w = true) : w ∈ gw_L := List.mem_filter.mpr ⟨List.mem_of_getElem? h, ok⟩
theorem gw_ins (ws : List Cond) (ps : List Nat) (hp : ws = ps.filterMap (fun i => lw_tbl[i]?)) (h : ws.all gw_okw = true) : ∀ w ∈ ws, w ∈ gw_L := by
  intro w hw
  have h1 := List.all_eq_true.mp h w hw
  rw [hp] at hw
  obtain ⟨i, -, hi⟩ := List.mem_filterMap.mp hw
  exact gw_in i hi h1
theorem gw_tab {w : Cond} (h : w ∈ gw_L) : w.onTables = true := by
  have := (List.mem_filter.mp h).2
  simp only [gw_okw, Bool.and_eq_true] at this
  exact this.1
theorem gw_warm {w : Cond} {s U : State} (h : w ∈ gw_L) (hW : s.WarmedH U.vm) (hz : va_Nw w s) : va_Nw w U := by
  have h1 := (List.mem_filter.mp h).2
  simp only [gw_okw, Bool.and_eq_true, Bool.or_eq_true] at h1
  obtain ⟨h2, h3 | h3⟩ := h1
  · exact word_at hW (Or.inl (by rw [h2, h3]; rfl)) hz
  · cases w <;> first | (exact va_Nw.warmC hW hz) | (cases h3)
/-- the texts of the exceptions: entry, text -/
def gw_ST : List (Nat × String) := [(46, "seats, credits or hours out of range"), (53, "no more courses"), (72, "seats out of range"), (78, "more places are taken or held"), (93, "no new prerequisite without a circle"), (117, "band or limit out of range"), (119, "no more students"), (138, "passed already or enrolled"), (159, "passed or enrolled"), (168, "wished already or no more wishes"), (173, "not wished"), (182, "on the waiting list already"), (184, "an obstacle"), (190, "not enrolled"), (195, "not enrolled, or the same course"), (197, "no free seat"), (203, "no offer"), (205, "not on the waiting list"), (207, "days out of range"), (216, "seed below 0"), (234, "no place put up"), (254, "no such course"), (257, "no such student"), (262, "nothing at this place")]
def gw_X : List String := ["java/lang/IllegalArgumentException", "java/lang/IllegalStateException", "java/lang/IndexOutOfBoundsException"]
abbrev gw_T (Γ : gw_G) : List (ClassId × FieldType) := [(gw_y Γ 0, .int), (gw_y Γ 1, .object "CourseEnrolment$Course"), (gw_y Γ 2, .object "CourseEnrolment$Student"), (gw_y Γ 3, .long)]
def gw_ok (Γ : gw_G) : Prop := (∀ i j, i < 152 → j < 152 → gw_a Γ i = gw_a Γ j → i = j) ∧ ∀ k, k < 152 → gw_N Γ ≤ gw_a Γ k
theorem gw_Dd {Γ : gw_G} {τ μ : gw_S} {o : Nat → Int64} (h : gw_ok Γ) : va_D (gw_A Γ) (gw_W Γ τ μ o) := by
  refine ⟨fun i j p q hi hj hpq => ?_, fun k q hk => ?_⟩
  · obtain ⟨h1, rfl⟩ := gw_of hi
    obtain ⟨h2, rfl⟩ := gw_of hj
    exact h.1 i j h1 h2 hpq
  · obtain ⟨h1, rfl⟩ := gw_of hk
    exact h.2 k h1
/-- what holds of the machine wherever a method begins -/
def gw_H (Γ : gw_G) (l : Launch) (U : State) : Prop :=
  (∀ w ∈ gw_L, va_Nw w U) ∧ va_K (gw_D Γ) vwCl (gw_T Γ) U ∧ gw_N Γ ≤ U.heap.size ∧ gw_ok Γ ∧ l.stackTraces = false ∧ vx_Zq Bundle.tN "UNASSIGNED_STACK" Bundle.steD (gw_A Γ) U U.heap ∧ vx_Zq Bundle.tN "SUPPRESSED_SENTINEL" Bundle.listD (gw_A Γ) U U.heap ∧ (∀ q ∈ gw_ST, vk_R RX3 q.1 q.2 (gw_sa Γ q.1) U) ∧ ∀ a ∈ gw_X, ∀ b ∈ gw_X, a ≠ b → va_Nc a b U
theorem gw_H.call {Γ : gw_G} {l : Launch} {U : State} (g : JFrame) (mk : MethodId) (a : Array Value) (h : gw_H Γ l U) : gw_H Γ l (U.calling g mk a) := by
  obtain ⟨h1, h2, h3, h4, h5, h6, h7, h8, h9⟩ := h
  refine ⟨fun w hw => va_Nw.same (gw_tab hw) (u := U) rfl (h1 w hw), va_K.moved (u := U) (Vm.Alike.refl U.vm) h2, h3, h4, h5, vx_Zq.moved (u := U) (Vm.Alike.refl U.vm) h6, vx_Zq.moved (u := U) (Vm.Alike.refl U.vm) h7, fun q hq => vk_R.same (u := U) rfl (h8 q hq), fun a ha b hb hab => va_Nc.moved (u := U) (Vm.Alike.refl U.vm) (h9 a ha b hb hab)⟩
theorem gw_H.step {Γ : gw_G} {l : Launch} {s U : State} {H : Heap} {locs : List Loc} (h : gw_H Γ l s) (hS : va_S (gw_A Γ) s.heap H locs) (hU : U.heap = H) (hW : s.WarmedH U.vm) : gw_H Γ l U := by
  obtain ⟨h1, h2, h3, h4, h5, h6, h7, h8, h9⟩ := h
  refine ⟨fun w hw => gw_warm hw hW (h1 w hw), va_K.moved hW.alike h2, by rw [hU]; exact Nat.le_trans h3 hS.1, h4, h5, ?_, ?_, fun q hq => vk_R.warm hW (h8 q hq), fun a ha b hb hab => va_Nc.moved hW.alike (h9 a ha b hb hab)⟩
  · rw [hU]; exact vx_Zq.moved hW.alike (h6.kept hS.2.1)
  · rw [hU]; exact vx_Zq.moved hW.alike (h7.kept hS.2.1)
def gw_P (Γ : gw_G) (l : Launch) (ws : va_W) (U : State) : Prop := va_P (gw_D Γ) vwCl ws U.heap ∧ gw_H Γ l U
abbrev gw_K := Program × Launch × Env × State × MethodId × Array Value × List Frame × Method × Code × (State → Prop)
abbrev gw_p (K : gw_K) : Program := K.1
abbrev gw_l (K : gw_K) : Launch := K.2.1
abbrev gw_en (K : gw_K) : Env := K.2.2.1
abbrev gw_s (K : gw_K) : State := K.2.2.2.1
abbrev gw_m (K : gw_K) : MethodId := K.2.2.2.2.1
abbrev gw_as (K : gw_K) : Array Value := K.2.2.2.2.2.1
abbrev gw_b (K : gw_K) : List Frame := K.2.2.2.2.2.2.1
abbrev gw_me (K : gw_K) : Method := K.2.2.2.2.2.2.2.1
abbrev gw_c (K : gw_K) : Code := K.2.2.2.2.2.2.2.2.1
abbrev gw_Q (K : gw_K) : State → Prop := K.2.2.2.2.2.2.2.2.2
/-- THE JUDGEMENT: from this place of the method, with these locals, this stack and this world -/
def gw_J (K : gw_K) (Γ : gw_G) (R : Room) (cells slots : Nat) (ws : va_W) (pc : Nat) (lv : List (Nat × Value)) (st : List Value) : Prop :=
  ∀ (H : Heap) (locs : List Loc) (ls : Array Slot), va_P (gw_D Γ) vwCl ws H → va_S (gw_A Γ) (gw_s K).heap H locs → lv_has ls (gw_c K).maxLocals lv → W (gw_p K) (gw_l K) (gw_en K) R (gw_s K) (gw_m K) (gw_as K) (gw_b K) (gw_me K) (gw_c K) H locs cells slots (gw_Q K) (F0 (gw_m K) pc ls st)
/-- .. and with an exception thrown over this place -/
def gw_JX (K : gw_K) (Γ : gw_G) (R : Room) (cells slots : Nat) (ws : va_W) (pc : Nat) (lv : List (Nat × Value)) (E : String) : Prop :=
  ∀ (H : Heap) (locs : List Loc) (ls : Array Slot) (rest : List Value) (q : Nat) (ce : Cell), va_P (gw_D Γ) vwCl ws H → va_S (gw_A Γ) (gw_s K).heap H locs → lv_has ls (gw_c K).maxLocals lv → H[q]? = some ce → ce.vm = .none → (gw_s K).vm.findClass E = some ce.cls → vx_W (gw_p K) (gw_l K) (gw_en K) R (gw_s K) (gw_m K) (gw_as K) (gw_b K) (gw_me K) (gw_c K) H locs cells slots (gw_Q K) (F0 (gw_m K) pc ls rest) q
/-- what is known of the frame -/
def gw_C (K : gw_K) (Γ : gw_G) (cc : ByteArray) (nL : Nat) (own : String) : Prop :=
  (gw_p K).tables.exec = Jvm.exec ∧ (gw_c K).code = cc ∧ (gw_c K).maxLocals = nL ∧ (gw_s K).vm.findClass own = some (gw_m K).cls ∧ gw_H Γ (gw_l K) (gw_s K) ∧ (gw_me K).locks = false
section gwC
variable {K : gw_K} {Γ : gw_G} {cc : ByteArray} {nL : Nat} {own : String}
theorem gw_C.ws (C : gw_C K Γ cc nL own) : ∀ w ∈ gw_L, w.before (gw_as K) (gw_s K) = true := fun w hw => va_Nw.use (gw_tab hw) (C.2.2.2.2.1.1 w hw)
theorem gw_C.ow (C : gw_C K Γ cc nL own) : (gw_s K).vm.findClass own = some (gw_m K).cls := C.2.2.2.1
theorem gw_C.hh (C : gw_C K Γ cc nL own) : gw_H Γ (gw_l K) (gw_s K) := C.2.2.2.2.1
theorem gw_C.k (C : gw_C K Γ cc nL own) : va_K (gw_D Γ) vwCl (gw_T Γ) (gw_s K) := C.2.2.2.2.1.2.1
theorem gw_C.d (C : gw_C K Γ cc nL own) {τ μ : gw_S} {o : Nat → Int64} : va_D (gw_A Γ) (gw_W Γ τ μ o) := gw_Dd C.2.2.2.2.1.2.2.2.1
theorem gw_C.locks (C : gw_C K Γ cc nL own) : (gw_me K).locks = false := C.2.2.2.2.2
theorem gw_C.fix (C : gw_C K Γ cc nL own) : CallFix (gw_p K) (gw_m K) (gw_c K) cc nL (gw_s K) (gw_as K) gw_L own := ⟨C.1, C.2.1, C.2.2.1, C.ow, C.ws⟩
theorem gw_C.inj (C : gw_C K Γ cc nL own) {i j : Nat} (hi : i < 152) (hj : j < 152) : gw_a Γ i = gw_a Γ j ↔ i = j := ⟨C.2.2.2.2.1.2.2.2.1.1 i j hi hj, fun h => by rw [h]⟩
end gwC
end
section
/-! The kit's rows as rules of the judgement -/
section gwR
variable {K : gw_K} {Γ : gw_G} {R : Room} {cells slots pc : Nat} {ws : va_W} {lv : List (Nat × Value)} {rest : List Value} {cc : ByteArray} {nL : Nat} {own : String}
theorem gj_iconst (C : gw_C K Γ cc nL own) {n : Int} {v : Int32} (hd : decode cc pc = .ok (.iconst n, 1)) (hv : Int32.ofInt n = v) (k : gw_J K Γ R cells slots ws (pc + 1) lv (.int v :: rest)) : gw_J K Γ R cells slots ws pc lv rest := fun H locs ls hP hS hl => lv_iconst C.1 C.2.1 hd hv (k H locs ls hP hS hl)
theorem gj_bipush (C : gw_C K Γ cc nL own) {n : Int} {v : Int32} (hd : decode cc pc = .ok (.bipush n, 2)) (hv : (Int8.ofInt n).toInt32 = v) (k : gw_J K Γ R cells slots ws (pc + 2) lv (.int v :: rest)) : gw_J K Γ R cells slots ws pc lv rest := fun H locs ls hP hS hl => lv_bipush C.1 C.2.1 hd hv (k H locs ls hP hS hl)
theorem gj_sipush (C : gw_C K Γ cc nL own) {n : Int} {v : Int32} (hd : decode cc pc = .ok (.sipush n, 3)) (hv : (Int16.ofInt n).toInt32 = v) (k : gw_J K Γ R cells slots ws (pc + 3) lv (.int v :: rest)) : gw_J K Γ R cells slots ws pc lv rest := fun H locs ls hP hS hl => lv_sipush C.1 C.2.1 hd hv (k H locs ls hP hS hl)
theorem gj_lconst (C : gw_C K Γ cc nL own) {n : Fin 2} {v : Int64} (hd : decode cc pc = .ok (.lconst n, 1)) (hv : Int64.ofNat (n : Nat) = v) (k : gw_J K Γ R cells slots ws (pc + 1) lv (.long v :: rest)) : gw_J K Γ R cells slots ws pc lv rest := fun H locs ls hP hS hl => lv_lconst C.1 C.2.1 hd hv (k H locs ls hP hS hl)
theorem gj_ldc (C : gw_C K Γ cc nL own) {index : Nat} {v : Int32} (hc : Cond.constant own index v ∈ gw_L) (hd : decode cc pc = .ok (.ldc index, 2)) (k : gw_J K Γ R cells slots ws (pc + 2) lv (.int v :: rest)) : gw_J K Γ R cells slots ws pc lv rest := fun H locs ls hP hS hl => lv_ldc C.1 C.2.1 C.ow (C.ws _ hc) hd (k H locs ls hP hS hl)
theorem gj_ldcw (C : gw_C K Γ cc nL own) {index : Nat} {v : Int32} (hc : Cond.constant own index v ∈ gw_L) (hd : decode cc pc = .ok (.ldc_w index, 3)) (k : gw_J K Γ R cells slots ws (pc + 3) lv (.int v :: rest)) : gw_J K Γ R cells slots ws pc lv rest := fun H locs ls hP hS hl => lv_ldcw C.1 C.2.1 C.ow (C.ws _ hc) hd (k H locs ls hP hS hl)
theorem gj_ldc2 (C : gw_C K Γ cc nL own) {index : Nat} {v : Int64} (hc : Cond.constantLong own index v ∈ gw_L) (hd : decode cc pc = .ok (.ldc2_w index, 3)) (k : gw_J K Γ R cells slots ws (pc + 3) lv (.long v :: rest)) : gw_J K Γ R cells slots ws pc lv rest := fun H locs ls hP hS hl => lv_ldc2 C.1 C.2.1 C.ow (C.ws _ hc) hd (k H locs ls hP hS hl)
theorem gj_iload_n (C : gw_C K Γ cc nL own) {f : Fin 4} {x : Int32} (j : Nat) (hd : decode cc pc = .ok (.iload_n f, 1)) (hj : lv[j]? = some ((f : Nat), .int x)) (k : gw_J K Γ R cells slots ws (pc + 1) lv (.int x :: rest)) : gw_J K Γ R cells slots ws pc lv rest := fun H locs ls hP hS hl => lv_iload_n C.1 C.2.1 hd rfl (lv_at hl j hj) (k H locs ls hP hS hl)
theorem gj_iload (C : gw_C K Γ cc nL own) {i : Nat} {x : Int32} (j : Nat) (hd : decode cc pc = .ok (.iload i, 2)) (hj : lv[j]? = some (i, .int x)) (k : gw_J K Γ R cells slots ws (pc + 2) lv (.int x :: rest)) : gw_J K Γ R cells slots ws pc lv rest := fun H locs ls hP hS hl => lv_iload C.1 C.2.1 hd (lv_at hl j hj) (k H locs ls hP hS hl)
theorem gj_aload_n (C : gw_C K Γ cc nL own) {f : Fin 4} {x : Nat} (j : Nat) (hd : decode cc pc = .ok (.aload_n f, 1)) (hj : lv[j]? = some ((f : Nat), .ref x)) (k : gw_J K Γ R cells slots ws (pc + 1) lv (.ref x :: rest)) : gw_J K Γ R cells slots ws pc lv rest := fun H locs ls hP hS hl => lv_aload_n C.1 C.2.1 hd rfl (lv_at hl j hj) (k H locs ls hP hS hl)
theorem gj_aload (C : gw_C K Γ cc nL own) {i : Nat} {x : Nat} (j : Nat) (hd : decode cc pc = .ok (.aload i, 2)) (hj : lv[j]? = some (i, .ref x)) (k : gw_J K Γ R cells slots ws (pc + 2) lv (.ref x :: rest)) : gw_J K Γ R cells slots ws pc lv rest := fun H locs ls hP hS hl => lv_aload C.1 C.2.1 hd (lv_at hl j hj) (k H locs ls hP hS hl)
theorem gj_lload_n (C : gw_C K Γ cc nL own) {f : Fin 4} {x : Int64} (j : Nat) (hd : decode cc pc = .ok (.lload_n f, 1)) (hj : lv[j]? = some ((f : Nat), .long x)) (k : gw_J K Γ R cells slots ws (pc + 1) lv (.long x :: rest)) : gw_J K Γ R cells slots ws pc lv rest := fun H locs ls hP hS hl => lv_lload_n C.1 C.2.1 hd rfl (lv_at hl j hj) (k H locs ls hP hS hl)
theorem gj_lload (C : gw_C K Γ cc nL own) {i : Nat} {x : Int64} (j : Nat) (hd : decode cc pc = .ok (.lload i, 2)) (hj : lv[j]? = some (i, .long x)) (k : gw_J K Γ R cells slots ws (pc + 2) lv (.long x :: rest)) : gw_J K Γ R cells slots ws pc lv rest := fun H locs ls hP hS hl => lv_lload C.1 C.2.1 hd (lv_at hl j hj) (k H locs ls hP hS hl)
theorem gj_istore_n (C : gw_C K Γ cc nL own) {f : Fin 4} {x : Int32} (i : Nat) (lv' : List (Nat × Value)) (hd : decode cc pc = .ok (.istore_n f, 1)) (hi : (f : Nat) = i) (hn : i < nL) (hl' : (i, Value.int x) :: lv.filter (fun q => !(q.1 == i) && !(q.1 + 1 == i && q.2.category == 2)) = lv') (k : gw_J K Γ R cells slots ws (pc + 1) lv' rest) : gw_J K Γ R cells slots ws pc lv (.int x :: rest) := fun H locs ls hP hS hl => lv_istore_n C.1 C.2.1 hd hi hl (by rw [C.2.2.1]; exact hn) hl' (fun ls hl => k H locs ls hP hS hl)
theorem gj_istore (C : gw_C K Γ cc nL own) {x : Int32} (i : Nat) (lv' : List (Nat × Value)) (hd : decode cc pc = .ok (.istore i, 2)) (hn : i < nL) (hl' : (i, Value.int x) :: lv.filter (fun q => !(q.1 == i) && !(q.1 + 1 == i && q.2.category == 2)) = lv') (k : gw_J K Γ R cells slots ws (pc + 2) lv' rest) : gw_J K Γ R cells slots ws pc lv (.int x :: rest) := fun H locs ls hP hS hl => lv_istore C.1 C.2.1 hd hl (by rw [C.2.2.1]; exact hn) hl' (fun ls hl => k H locs ls hP hS hl)
theorem gj_astore_n (C : gw_C K Γ cc nL own) {f : Fin 4} {x : Nat} (i : Nat) (lv' : List (Nat × Value)) (hd : decode cc pc = .ok (.astore_n f, 1)) (hi : (f : Nat) = i) (hn : i < nL) (hl' : (i, Value.ref x) :: lv.filter (fun q => !(q.1 == i) && !(q.1 + 1 == i && q.2.category == 2)) = lv') (k : gw_J K Γ R cells slots ws (pc + 1) lv' rest) : gw_J K Γ R cells slots ws pc lv (.ref x :: rest) := fun H locs ls hP hS hl => lv_astore_n C.1 C.2.1 hd hi hl (by rw [C.2.2.1]; exact hn) hl' (fun ls hl => k H locs ls hP hS hl)
theorem gj_astore (C : gw_C K Γ cc nL own) {x : Nat} (i : Nat) (lv' : List (Nat × Value)) (hd : decode cc pc = .ok (.astore i, 2)) (hn : i < nL) (hl' : (i, Value.ref x) :: lv.filter (fun q => !(q.1 == i) && !(q.1 + 1 == i && q.2.category == 2)) = lv') (k : gw_J K Γ R cells slots ws (pc + 2) lv' rest) : gw_J K Γ R cells slots ws pc lv (.ref x :: rest) := fun H locs ls hP hS hl => lv_astore C.1 C.2.1 hd hl (by rw [C.2.2.1]; exact hn) hl' (fun ls hl => k H locs ls hP hS hl)
theorem gj_lstore_n (C : gw_C K Γ cc nL own) {f : Fin 4} {x : Int64} (i : Nat) (lv' : List (Nat × Value)) (hd : decode cc pc = .ok (.lstore_n f, 1)) (hi : (f : Nat) = i) (hn : i + 1 < nL) (hl' : (i, Value.long x) :: lv.filter (fun q => !(q.1 == i) && (!(q.1 == i + 1) && !(q.1 + 1 == i && q.2.category == 2))) = lv') (k : gw_J K Γ R cells slots ws (pc + 1) lv' rest) : gw_J K Γ R cells slots ws pc lv (.long x :: rest) := fun H locs ls hP hS hl => lv_lstore_n C.1 C.2.1 hd hi hl (by rw [C.2.2.1]; exact hn) hl' (fun ls hl => k H locs ls hP hS hl)
theorem gj_lstore (C : gw_C K Γ cc nL own) {x : Int64} (i : Nat) (lv' : List (Nat × Value)) (hd : decode cc pc = .ok (.lstore i, 2)) (hn : i + 1 < nL) (hl' : (i, Value.long x) :: lv.filter (fun q => !(q.1 == i) && (!(q.1 == i + 1) && !(q.1 + 1 == i && q.2.category == 2))) = lv') (k : gw_J K Γ R cells slots ws (pc + 2) lv' rest) : gw_J K Γ R cells slots ws pc lv (.long x :: rest) := fun H locs ls hP hS hl => lv_lstore C.1 C.2.1 hd hl (by rw [C.2.2.1]; exact hn) hl' (fun ls hl => k H locs ls hP hS hl)
theorem gj_iinc (C : gw_C K Γ cc nL own) {n : Int} {x : Int32} (i j : Nat) (v : Int32) (lv' : List (Nat × Value)) (hd : decode cc pc = .ok (.iinc i n, 3)) (hj : lv[j]? = some (i, .int x)) (hv : x + Int32.ofInt n = v) (hn : i < nL) (hl' : (i, Value.int v) :: lv.filter (fun q => !(q.1 == i) && !(q.1 + 1 == i && q.2.category == 2)) = lv') (k : gw_J K Γ R cells slots ws (pc + 3) lv' rest) : gw_J K Γ R cells slots ws pc lv rest := fun H locs ls hP hS hl => lv_iinc C.1 C.2.1 hd hl hj hv (by rw [C.2.2.1]; exact hn) hl' (fun ls hl => k H locs ls hP hS hl)
theorem gj_iadd (C : gw_C K Γ cc nL own) {x y : Int32} (hd : decode cc pc = .ok (.iadd, 1)) (k : gw_J K Γ R cells slots ws (pc + 1) lv (.int (x + y) :: rest)) : gw_J K Γ R cells slots ws pc lv (.int y :: .int x :: rest) := fun H locs ls hP hS hl => lv_iadd C.1 C.2.1 hd (k H locs ls hP hS hl)
theorem gj_isub (C : gw_C K Γ cc nL own) {x y : Int32} (hd : decode cc pc = .ok (.isub, 1)) (k : gw_J K Γ R cells slots ws (pc + 1) lv (.int (x - y) :: rest)) : gw_J K Γ R cells slots ws pc lv (.int y :: .int x :: rest) := fun H locs ls hP hS hl => lv_isub C.1 C.2.1 hd (k H locs ls hP hS hl)
theorem gj_imul (C : gw_C K Γ cc nL own) {x y : Int32} (hd : decode cc pc = .ok (.imul, 1)) (k : gw_J K Γ R cells slots ws (pc + 1) lv (.int (x * y) :: rest)) : gw_J K Γ R cells slots ws pc lv (.int y :: .int x :: rest) := fun H locs ls hP hS hl => lv_imul C.1 C.2.1 hd (k H locs ls hP hS hl)
theorem gj_iand (C : gw_C K Γ cc nL own) {x y : Int32} (hd : decode cc pc = .ok (.iand, 1)) (k : gw_J K Γ R cells slots ws (pc + 1) lv (.int (x &&& y) :: rest)) : gw_J K Γ R cells slots ws pc lv (.int y :: .int x :: rest) := fun H locs ls hP hS hl => lv_iand C.1 C.2.1 hd (k H locs ls hP hS hl)
theorem gj_ior (C : gw_C K Γ cc nL own) {x y : Int32} (hd : decode cc pc = .ok (.ior, 1)) (k : gw_J K Γ R cells slots ws (pc + 1) lv (.int (x ||| y) :: rest)) : gw_J K Γ R cells slots ws pc lv (.int y :: .int x :: rest) := fun H locs ls hP hS hl => lv_ior C.1 C.2.1 hd (k H locs ls hP hS hl)
theorem gj_ixor (C : gw_C K Γ cc nL own) {x y : Int32} (hd : decode cc pc = .ok (.ixor, 1)) (k : gw_J K Γ R cells slots ws (pc + 1) lv (.int (x ^^^ y) :: rest)) : gw_J K Γ R cells slots ws pc lv (.int y :: .int x :: rest) := fun H locs ls hP hS hl => lv_ixor C.1 C.2.1 hd (k H locs ls hP hS hl)
theorem gj_ishl (C : gw_C K Γ cc nL own) {x y : Int32} (hd : decode cc pc = .ok (.ishl, 1)) (k : gw_J K Γ R cells slots ws (pc + 1) lv (.int (x <<< (y &&& 31)) :: rest)) : gw_J K Γ R cells slots ws pc lv (.int y :: .int x :: rest) := fun H locs ls hP hS hl => lv_ishl C.1 C.2.1 hd (k H locs ls hP hS hl)
theorem gj_ishr (C : gw_C K Γ cc nL own) {x y : Int32} (hd : decode cc pc = .ok (.ishr, 1)) (k : gw_J K Γ R cells slots ws (pc + 1) lv (.int (x >>> (y &&& 31)) :: rest)) : gw_J K Γ R cells slots ws pc lv (.int y :: .int x :: rest) := fun H locs ls hP hS hl => lv_ishr C.1 C.2.1 hd (k H locs ls hP hS hl)
theorem gj_iushr (C : gw_C K Γ cc nL own) {x y v : Int32} (hd : decode cc pc = .ok (.iushr, 1)) (hv : (x.toUInt32 >>> (y.toUInt32 &&& Int32.toUInt32 31)).toInt32 = v) (k : gw_J K Γ R cells slots ws (pc + 1) lv (.int v :: rest)) : gw_J K Γ R cells slots ws pc lv (.int y :: .int x :: rest) := fun H locs ls hP hS hl => lv_iushr C.1 C.2.1 hd hv (k H locs ls hP hS hl)
theorem gj_irem (C : gw_C K Γ cc nL own) {x y : Int32} (hd : decode cc pc = .ok (.irem, 1)) (h0 : ¬ y = 0) (k : gw_J K Γ R cells slots ws (pc + 1) lv (.int (x - x / y * y) :: rest)) : gw_J K Γ R cells slots ws pc lv (.int y :: .int x :: rest) := fun H locs ls hP hS hl => lv_irem C.1 C.2.1 hd h0 (k H locs ls hP hS hl)
theorem gj_ladd (C : gw_C K Γ cc nL own) {x y : Int64} (hd : decode cc pc = .ok (.ladd, 1)) (k : gw_J K Γ R cells slots ws (pc + 1) lv (.long (x + y) :: rest)) : gw_J K Γ R cells slots ws pc lv (.long y :: .long x :: rest) := fun H locs ls hP hS hl => lv_ladd C.1 C.2.1 hd (k H locs ls hP hS hl)
theorem gj_lmul (C : gw_C K Γ cc nL own) {x y : Int64} (hd : decode cc pc = .ok (.lmul, 1)) (k : gw_J K Γ R cells slots ws (pc + 1) lv (.long (x * y) :: rest)) : gw_J K Γ R cells slots ws pc lv (.long y :: .long x :: rest) := fun H locs ls hP hS hl => lv_lmul C.1 C.2.1 hd (k H locs ls hP hS hl)
theorem gj_ldiv (C : gw_C K Γ cc nL own) {x y : Int64} (hd : decode cc pc = .ok (.ldiv, 1)) (h0 : ¬ y = 0) (k : gw_J K Γ R cells slots ws (pc + 1) lv (.long (x / y) :: rest)) : gw_J K Γ R cells slots ws pc lv (.long y :: .long x :: rest) := fun H locs ls hP hS hl => lv_ldiv C.1 C.2.1 hd h0 (k H locs ls hP hS hl)
theorem gj_lrem (C : gw_C K Γ cc nL own) {x y : Int64} (hd : decode cc pc = .ok (.lrem, 1)) (h0 : ¬ y = 0) (k : gw_J K Γ R cells slots ws (pc + 1) lv (.long (x - x / y * y) :: rest)) : gw_J K Γ R cells slots ws pc lv (.long y :: .long x :: rest) := fun H locs ls hP hS hl => lv_lrem C.1 C.2.1 hd h0 (k H locs ls hP hS hl)
theorem gj_lcmp (C : gw_C K Γ cc nL own) {x y : Int64} (hd : decode cc pc = .ok (.lcmp, 1)) (k : gw_J K Γ R cells slots ws (pc + 1) lv (.int (lg_cmp x y) :: rest)) : gw_J K Γ R cells slots ws pc lv (.long y :: .long x :: rest) := fun H locs ls hP hS hl => W.lcmp C.1 C.2.1 hd (k H locs ls hP hS hl)
theorem gj_i2l (C : gw_C K Γ cc nL own) {x : Int32} (hd : decode cc pc = .ok (.i2l, 1)) (k : gw_J K Γ R cells slots ws (pc + 1) lv (.long x.toInt64 :: rest)) : gw_J K Γ R cells slots ws pc lv (.int x :: rest) := fun H locs ls hP hS hl => lv_i2l C.1 C.2.1 hd rfl (k H locs ls hP hS hl)
theorem gj_l2i (C : gw_C K Γ cc nL own) {x : Int64} (hd : decode cc pc = .ok (.l2i, 1)) (k : gw_J K Γ R cells slots ws (pc + 1) lv (.int x.toInt32 :: rest)) : gw_J K Γ R cells slots ws pc lv (.long x :: rest) := fun H locs ls hP hS hl => lv_l2i C.1 C.2.1 hd rfl (k H locs ls hP hS hl)
theorem gj_dup (C : gw_C K Γ cc nL own) {v : Value} (hd : decode cc pc = .ok (.dup, 1)) (hv : v.category = 1) (k : gw_J K Γ R cells slots ws (pc + 1) lv (v :: v :: rest)) : gw_J K Γ R cells slots ws pc lv (v :: rest) := fun H locs ls hP hS hl => lv_dup C.1 C.2.1 hd hv (k H locs ls hP hS hl)
theorem gj_pop (C : gw_C K Γ cc nL own) {v : Value} (hd : decode cc pc = .ok (.pop, 1)) (hv : v.category = 1) (k : gw_J K Γ R cells slots ws (pc + 1) lv rest) : gw_J K Γ R cells slots ws pc lv (v :: rest) := fun H locs ls hP hS hl => lv_pop C.1 C.2.1 hd hv (k H locs ls hP hS hl)
theorem gj_dup2 (C : gw_C K Γ cc nL own) {v u : Value} (hd : decode cc pc = .ok (.dup2, 1)) (hv : v.category = 1) (hu : u.category = 1) (k : gw_J K Γ R cells slots ws (pc + 1) lv (v :: u :: v :: u :: rest)) : gw_J K Γ R cells slots ws pc lv (v :: u :: rest) := fun H locs ls hP hS hl => lv_dup2_11 C.1 C.2.1 hd hv hu (k H locs ls hP hS hl)
theorem gj_if_eq (C : gw_C K Γ cc nL own) {x : Int32} {off : Int} (tgt : Nat) (hd : decode cc pc = .ok (.ifCond .eq off, 3)) (ht : (pc : Int) + off = (tgt : Int)) (kt : x = 0 → gw_J K Γ R cells slots ws tgt lv rest) (kf : ¬ x = 0 → gw_J K Γ R cells slots ws (pc + 3) lv rest) : gw_J K Γ R cells slots ws pc lv (.int x :: rest) := fun H locs ls hP hS hl => lv_if_eq C.1 C.2.1 hd ht (fun h => kt h H locs ls hP hS hl) (fun h => kf h H locs ls hP hS hl)
theorem gj_if_ne (C : gw_C K Γ cc nL own) {x : Int32} {off : Int} (tgt : Nat) (hd : decode cc pc = .ok (.ifCond .ne off, 3)) (ht : (pc : Int) + off = (tgt : Int)) (kt : ¬ x = 0 → gw_J K Γ R cells slots ws tgt lv rest) (kf : x = 0 → gw_J K Γ R cells slots ws (pc + 3) lv rest) : gw_J K Γ R cells slots ws pc lv (.int x :: rest) := fun H locs ls hP hS hl => lv_if_ne C.1 C.2.1 hd ht (fun h => kt h H locs ls hP hS hl) (fun h => kf h H locs ls hP hS hl)
theorem gj_if_lt (C : gw_C K Γ cc nL own) {x : Int32} {off : Int} (tgt : Nat) (hd : decode cc pc = .ok (.ifCond .lt off, 3)) (ht : (pc : Int) + off = (tgt : Int)) (kt : x < 0 → gw_J K Γ R cells slots ws tgt lv rest) (kf : ¬ x < 0 → gw_J K Γ R cells slots ws (pc + 3) lv rest) : gw_J K Γ R cells slots ws pc lv (.int x :: rest) := fun H locs ls hP hS hl => lv_if_lt C.1 C.2.1 hd ht (fun h => kt h H locs ls hP hS hl) (fun h => kf h H locs ls hP hS hl)
theorem gj_if_ge (C : gw_C K Γ cc nL own) {x : Int32} {off : Int} (tgt : Nat) (hd : decode cc pc = .ok (.ifCond .ge off, 3)) (ht : (pc : Int) + off = (tgt : Int)) (kt : 0 ≤ x → gw_J K Γ R cells slots ws tgt lv rest) (kf : ¬ 0 ≤ x → gw_J K Γ R cells slots ws (pc + 3) lv rest) : gw_J K Γ R cells slots ws pc lv (.int x :: rest) := fun H locs ls hP hS hl => lv_if_ge C.1 C.2.1 hd ht (fun h => kt h H locs ls hP hS hl) (fun h => kf h H locs ls hP hS hl)
theorem gj_if_gt (C : gw_C K Γ cc nL own) {x : Int32} {off : Int} (tgt : Nat) (hd : decode cc pc = .ok (.ifCond .gt off, 3)) (ht : (pc : Int) + off = (tgt : Int)) (kt : 0 < x → gw_J K Γ R cells slots ws tgt lv rest) (kf : ¬ 0 < x → gw_J K Γ R cells slots ws (pc + 3) lv rest) : gw_J K Γ R cells slots ws pc lv (.int x :: rest) := fun H locs ls hP hS hl => lv_if_gt C.1 C.2.1 hd ht (fun h => kt h H locs ls hP hS hl) (fun h => kf h H locs ls hP hS hl)
theorem gj_if_le (C : gw_C K Γ cc nL own) {x : Int32} {off : Int} (tgt : Nat) (hd : decode cc pc = .ok (.ifCond .le off, 3)) (ht : (pc : Int) + off = (tgt : Int)) (kt : x ≤ 0 → gw_J K Γ R cells slots ws tgt lv rest) (kf : ¬ x ≤ 0 → gw_J K Γ R cells slots ws (pc + 3) lv rest) : gw_J K Γ R cells slots ws pc lv (.int x :: rest) := fun H locs ls hP hS hl => lv_if_le C.1 C.2.1 hd ht (fun h => kt h H locs ls hP hS hl) (fun h => kf h H locs ls hP hS hl)
theorem gj_ic_eq (C : gw_C K Γ cc nL own) {x y : Int32} {off : Int} (tgt : Nat) (hd : decode cc pc = .ok (.if_icmp .eq off, 3)) (ht : (pc : Int) + off = (tgt : Int)) (kt : x = y → gw_J K Γ R cells slots ws tgt lv rest) (kf : ¬ x = y → gw_J K Γ R cells slots ws (pc + 3) lv rest) : gw_J K Γ R cells slots ws pc lv (.int y :: .int x :: rest) := fun H locs ls hP hS hl => lv_icmp_eq C.1 C.2.1 hd ht (fun h => kt h H locs ls hP hS hl) (fun h => kf h H locs ls hP hS hl)
theorem gj_ic_ne (C : gw_C K Γ cc nL own) {x y : Int32} {off : Int} (tgt : Nat) (hd : decode cc pc = .ok (.if_icmp .ne off, 3)) (ht : (pc : Int) + off = (tgt : Int)) (kt : ¬ x = y → gw_J K Γ R cells slots ws tgt lv rest) (kf : x = y → gw_J K Γ R cells slots ws (pc + 3) lv rest) : gw_J K Γ R cells slots ws pc lv (.int y :: .int x :: rest) := fun H locs ls hP hS hl => lv_icmp_ne C.1 C.2.1 hd ht (fun h => kt h H locs ls hP hS hl) (fun h => kf h H locs ls hP hS hl)
theorem gj_ic_lt (C : gw_C K Γ cc nL own) {x y : Int32} {off : Int} (tgt : Nat) (hd : decode cc pc = .ok (.if_icmp .lt off, 3)) (ht : (pc : Int) + off = (tgt : Int)) (kt : x < y → gw_J K Γ R cells slots ws tgt lv rest) (kf : ¬ x < y → gw_J K Γ R cells slots ws (pc + 3) lv rest) : gw_J K Γ R cells slots ws pc lv (.int y :: .int x :: rest) := fun H locs ls hP hS hl => lv_icmp_lt C.1 C.2.1 hd ht (fun h => kt h H locs ls hP hS hl) (fun h => kf h H locs ls hP hS hl)
theorem gj_ic_ge (C : gw_C K Γ cc nL own) {x y : Int32} {off : Int} (tgt : Nat) (hd : decode cc pc = .ok (.if_icmp .ge off, 3)) (ht : (pc : Int) + off = (tgt : Int)) (kt : y ≤ x → gw_J K Γ R cells slots ws tgt lv rest) (kf : ¬ y ≤ x → gw_J K Γ R cells slots ws (pc + 3) lv rest) : gw_J K Γ R cells slots ws pc lv (.int y :: .int x :: rest) := fun H locs ls hP hS hl => lv_icmp_ge C.1 C.2.1 hd ht (fun h => kt h H locs ls hP hS hl) (fun h => kf h H locs ls hP hS hl)
theorem gj_ic_gt (C : gw_C K Γ cc nL own) {x y : Int32} {off : Int} (tgt : Nat) (hd : decode cc pc = .ok (.if_icmp .gt off, 3)) (ht : (pc : Int) + off = (tgt : Int)) (kt : y < x → gw_J K Γ R cells slots ws tgt lv rest) (kf : ¬ y < x → gw_J K Γ R cells slots ws (pc + 3) lv rest) : gw_J K Γ R cells slots ws pc lv (.int y :: .int x :: rest) := fun H locs ls hP hS hl => lv_icmp_gt C.1 C.2.1 hd ht (fun h => kt h H locs ls hP hS hl) (fun h => kf h H locs ls hP hS hl)
theorem gj_ic_le (C : gw_C K Γ cc nL own) {x y : Int32} {off : Int} (tgt : Nat) (hd : decode cc pc = .ok (.if_icmp .le off, 3)) (ht : (pc : Int) + off = (tgt : Int)) (kt : x ≤ y → gw_J K Γ R cells slots ws tgt lv rest) (kf : ¬ x ≤ y → gw_J K Γ R cells slots ws (pc + 3) lv rest) : gw_J K Γ R cells slots ws pc lv (.int y :: .int x :: rest) := fun H locs ls hP hS hl => lv_icmp_le C.1 C.2.1 hd ht (fun h => kt h H locs ls hP hS hl) (fun h => kf h H locs ls hP hS hl)
theorem gj_ac_eq (C : gw_C K Γ cc nL own) {i j : Nat} {off : Int} (tgt : Nat) (hi : i < 152) (hj : j < 152) (hd : decode cc pc = .ok (.if_acmp .eq off, 3)) (ht : (pc : Int) + off = (tgt : Int)) (kt : i = j → gw_J K Γ R cells slots ws tgt lv rest) (kf : ¬ i = j → gw_J K Γ R cells slots ws (pc + 3) lv rest) : gw_J K Γ R cells slots ws pc lv (.ref (gw_a Γ j) :: .ref (gw_a Γ i) :: rest) := fun H locs ls hP hS hl => lv_acmp_eq (rx := some (gw_a Γ i)) (ry := some (gw_a Γ j)) C.1 C.2.1 hd ht (fun h => kt ((C.inj hi hj).mp (Option.some.inj h)) H locs ls hP hS hl) (fun h => kf (fun e => h (by rw [e])) H locs ls hP hS hl)
theorem gj_ac_ne (C : gw_C K Γ cc nL own) {i j : Nat} {off : Int} (tgt : Nat) (hi : i < 152) (hj : j < 152) (hd : decode cc pc = .ok (.if_acmp .ne off, 3)) (ht : (pc : Int) + off = (tgt : Int)) (kt : ¬ i = j → gw_J K Γ R cells slots ws tgt lv rest) (kf : i = j → gw_J K Γ R cells slots ws (pc + 3) lv rest) : gw_J K Γ R cells slots ws pc lv (.ref (gw_a Γ j) :: .ref (gw_a Γ i) :: rest) := fun H locs ls hP hS hl => lv_acmp_ne (rx := some (gw_a Γ i)) (ry := some (gw_a Γ j)) C.1 C.2.1 hd ht (fun h => kt (fun e => h (by rw [e])) H locs ls hP hS hl) (fun h => kf ((C.inj hi hj).mp (Option.some.inj h)) H locs ls hP hS hl)
theorem gj_goto (C : gw_C K Γ cc nL own) {off : Int} (tgt : Nat) (hd : decode cc pc = .ok (.goto off, 3)) (ht : (pc : Int) + off = (tgt : Int)) (k : gw_J K Γ R cells slots ws tgt lv rest) : gw_J K Γ R cells slots ws pc lv rest := fun H locs ls hP hS hl => lv_goto C.1 C.2.1 hd ht (k H locs ls hP hS hl)
theorem gj_pick (ks : List Nat) (lv' : List (Nat × Value)) (h : lv_pick lv ks = lv') (k : gw_J K Γ R cells slots ws pc lv' rest) : gw_J K Γ R cells slots ws pc lv rest := fun H locs ls hP hS hl => k H locs ls hP hS (lv_sub hl ks h)
theorem gj_widen {c2 s2 : Nat} (h1 : cells ≤ c2) (h2 : slots ≤ s2) (k : gw_J K Γ R c2 s2 ws pc lv rest) : gw_J K Γ R cells slots ws pc lv rest := fun H locs ls hP hS hl => W.widen h1 h2 (k H locs ls hP hS hl)
theorem gj_get (C : gw_C K Γ cc nL own) {Cn : String} {T : u_T} {N ci index q j : Nat} {a : Nat} {fs : List Value} {v : Value} (hin : ∀ w ∈ u_ws Cn T N, w ∈ gw_L) (hc : vwCl[ci]? = some (Cn, T, N)) (he : ws[q]? = some (a, .inr (ci, fs))) (hj : j < N) (hk : Cond.fieldLink own index (T j).1 (T j).2.1 (T j).2.2.1 ∈ gw_L) (hv : fs[j]? = some v) (hd : decode cc pc = .ok (.getfield index, 3)) (k : gw_J K Γ R cells slots ws (pc + 3) lv (v :: rest)) : gw_J K Γ R cells slots ws pc lv (.ref a :: rest) := fun H locs ls hP hS hl => va_get C.1 C.2.1 C.ws hin C.ow C.k hP q he hc j hj (C.ws _ hk) (fun _ h => h) hv hd (k H locs ls hP hS hl)
theorem gj_put (C : gw_C K Γ cc nL own) {Cn : String} {T : u_T} {N ci index q j : Nat} {a : Nat} {fs : List Value} {x : Int32} {τ μ : gw_S} {o : Nat → Int64} {ws' : va_W} (hin : ∀ w ∈ u_ws Cn T N, w ∈ gw_L) (ty : Nat → FieldType) (hty : ∀ k, k < N → parseFieldDescriptor (T k).2.2.1 = some (ty k)) (hnm : ∀ a, a < N → ∀ b, b < N → a ≠ b → (T a).2.1 ≠ (T b).2.1) (hc : vwCl[ci]? = some (Cn, T, N)) (he : (gw_W Γ τ μ o)[q]? = some (a, .inr (ci, fs))) (hj : j < N) (hk : Cond.fieldLink own index (T j).1 (T j).2.1 (T j).2.2.1 ∈ gw_L) (hf : (T j).2.2.2 = false) (ht : (T j).2.2.1 = "I") (hl' : j < fs.length) (hd : decode cc pc = .ok (.putfield index, 3)) (hw : (gw_W Γ τ μ o).set q (a, .inr (ci, fs.set j (.int x))) = ws') (k : gw_J K Γ R cells slots ws' (pc + 3) lv rest) : gw_J K Γ R cells slots (gw_W Γ τ μ o) pc lv (.int x :: .ref a :: rest) := fun H locs ls hP hS hl => va_put (ty := .int) C.1 C.2.1 C.ws hin ty hty hnm C.ow C.k hP C.d hS q he hc j hj (C.ws _ hk) (fun _ h => h) hf (by rw [ht]; decide +kernel) rfl rfl hl' hd (fun H locs hP hD hS => k H locs ls (by rw [← hw]; exact hP) hS hl)
theorem gj_ald (C : gw_C K Γ cc nL own) {τ μ : gw_S} {o : Nat → Int64} {q : Nat} {i : Int32} (hq : gw_kA q) (hi : vp_in i (gw_len q)) (hd : decode cc pc = .ok (.iaload, 1)) (k : gw_J K Γ R cells slots (gw_W Γ τ μ o) (pc + 1) lv (.int (τ q i.toNatClampNeg) :: rest)) : gw_J K Γ R cells slots (gw_W Γ τ μ o) pc lv (.int i :: .ref (gw_a Γ q) :: rest) := fun H locs ls hP hS hl => va_iald C.1 C.2.1 C.k hP q 0 (gw_atA hq) rfl hi hd (k H locs ls hP hS hl)
theorem gj_bld (C : gw_C K Γ cc nL own) {τ μ : gw_S} {o : Nat → Int64} {j : Nat} {i : Int32} (hq : 0 < j ∧ j < 19) (hi : vp_in i (gw_ml j)) (hd : decode cc pc = .ok (.iaload, 1)) (k : gw_J K Γ R cells slots (gw_W Γ τ μ o) (pc + 1) lv (.int (μ j i.toNatClampNeg) :: rest)) : gw_J K Γ R cells slots (gw_W Γ τ μ o) pc lv (.int i :: .ref (gw_a Γ (132 + j)) :: rest) := fun H locs ls hP hS hl => va_iald C.1 C.2.1 C.k hP (132 + j) 0 (gw_atB hq) rfl hi hd (k H locs ls hP hS hl)
theorem gj_ast (C : gw_C K Γ cc nL own) {τ μ : gw_S} {o : Nat → Int64} {q : Nat} {i x : Int32} (hq : gw_kA q) (hi : vp_in i (gw_len q)) (hd : decode cc pc = .ok (.iastore, 1)) (k : gw_J K Γ R cells slots (gw_W Γ (gw_up τ q i.toNatClampNeg x) μ o) (pc + 1) lv rest) : gw_J K Γ R cells slots (gw_W Γ τ μ o) pc lv (.int x :: .int i :: .ref (gw_a Γ q) :: rest) := fun H locs ls hP hS hl => va_iast C.1 C.2.1 C.k hP C.d hS q 0 (gw_atA hq) rfl hi hd (fun H locs hP hD hS => k H locs ls (by rw [← gw_setA hq]; exact hP) hS hl)
theorem gj_bst (C : gw_C K Γ cc nL own) {τ μ : gw_S} {o : Nat → Int64} {j : Nat} {i x : Int32} (hq : 0 < j ∧ j < 19) (hi : vp_in i (gw_ml j)) (hd : decode cc pc = .ok (.iastore, 1)) (k : gw_J K Γ R cells slots (gw_W Γ τ (gw_up μ j i.toNatClampNeg x) o) (pc + 1) lv rest) : gw_J K Γ R cells slots (gw_W Γ τ μ o) pc lv (.int x :: .int i :: .ref (gw_a Γ (132 + j)) :: rest) := fun H locs ls hP hS hl => va_iast C.1 C.2.1 C.k hP C.d hS (132 + j) 0 (gw_atB hq) rfl hi hd (fun H locs hP hD hS => k H locs ls (by rw [← gw_setB hq]; exact hP) hS hl)
theorem gj_alen (C : gw_C K Γ cc nL own) {τ μ : gw_S} {o : Nat → Int64} {q : Nat} {v : Int32} (hq : gw_kA q) (hv : Int32.ofNat (gw_len q) = v) (hd : decode cc pc = .ok (.arraylength, 1)) (k : gw_J K Γ R cells slots (gw_W Γ τ μ o) (pc + 1) lv (.int v :: rest)) : gw_J K Γ R cells slots (gw_W Γ τ μ o) pc lv (.ref (gw_a Γ q) :: rest) := fun H locs ls hP hS hl => va_alen C.1 C.2.1 C.k hP q 0 (gw_atA hq) rfl hv hd (k H locs ls hP hS hl)
theorem gj_alen1 (C : gw_C K Γ cc nL own) {τ μ : gw_S} {o : Nat → Int64} (hd : decode cc pc = .ok (.arraylength, 1)) (k : gw_J K Γ R cells slots (gw_W Γ τ μ o) (pc + 1) lv (.int 20 :: rest)) : gw_J K Γ R cells slots (gw_W Γ τ μ o) pc lv (.ref (gw_a Γ 1) :: rest) := fun H locs ls hP hS hl => va_alen C.1 C.2.1 C.k hP 1 1 gw_at1 rfl rfl hd (k H locs ls hP hS hl)
theorem gj_alen2 (C : gw_C K Γ cc nL own) {τ μ : gw_S} {o : Nat → Int64} (hd : decode cc pc = .ok (.arraylength, 1)) (k : gw_J K Γ R cells slots (gw_W Γ τ μ o) (pc + 1) lv (.int 16 :: rest)) : gw_J K Γ R cells slots (gw_W Γ τ μ o) pc lv (.ref (gw_a Γ 2) :: rest) := fun H locs ls hP hS hl => va_alen C.1 C.2.1 C.k hP 2 2 gw_at2 rfl rfl hd (k H locs ls hP hS hl)
theorem gj_ald1 (C : gw_C K Γ cc nL own) {τ μ : gw_S} {o : Nat → Int64} {i : Int32} (hi : vp_in i 20) (hd : decode cc pc = .ok (.aaload, 1)) (k : gw_J K Γ R cells slots (gw_W Γ τ μ o) (pc + 1) lv (.ref (gw_a Γ (4 + i.toNatClampNeg)) :: rest)) : gw_J K Γ R cells slots (gw_W Γ τ μ o) pc lv (.int i :: .ref (gw_a Γ 1) :: rest) := fun H locs ls hP hS hl => va_aldq C.1 C.2.1 C.k hP 1 1 gw_at1 rfl hi hd (k H locs ls hP hS hl)
theorem gj_ald2 (C : gw_C K Γ cc nL own) {τ μ : gw_S} {o : Nat → Int64} {i : Int32} (hi : vp_in i 16) (hd : decode cc pc = .ok (.aaload, 1)) (k : gw_J K Γ R cells slots (gw_W Γ τ μ o) (pc + 1) lv (.ref (gw_a Γ (24 + i.toNatClampNeg)) :: rest)) : gw_J K Γ R cells slots (gw_W Γ τ μ o) pc lv (.int i :: .ref (gw_a Γ 2) :: rest) := fun H locs ls hP hS hl => va_aldq C.1 C.2.1 C.k hP 2 2 gw_at2 rfl hi hd (k H locs ls hP hS hl)
theorem gj_lald (C : gw_C K Γ cc nL own) {τ μ : gw_S} {o : Nat → Int64} {i : Int32} (hi : vp_in i 1) (hd : decode cc pc = .ok (.laload, 1)) (k : gw_J K Γ R cells slots (gw_W Γ τ μ o) (pc + 1) lv (.long (o i.toNatClampNeg) :: rest)) : gw_J K Γ R cells slots (gw_W Γ τ μ o) pc lv (.int i :: .ref (gw_a Γ 151) :: rest) := fun H locs ls hP hS hl => va_lald C.1 C.2.1 C.k hP 151 3 gw_atO rfl hi hd (k H locs ls hP hS hl)
theorem gj_last (C : gw_C K Γ cc nL own) {τ μ : gw_S} {o : Nat → Int64} {i : Int32} {x : Int64} (hi : vp_in i 1) (hd : decode cc pc = .ok (.lastore, 1)) (k : gw_J K Γ R cells slots (gw_W Γ τ μ (vp_updL o i.toNatClampNeg x)) (pc + 1) lv rest) : gw_J K Γ R cells slots (gw_W Γ τ μ o) pc lv (.long x :: .int i :: .ref (gw_a Γ 151) :: rest) := fun H locs ls hP hS hl => va_last C.1 C.2.1 C.k hP C.d hS 151 3 gw_atO rfl hi hd (fun H locs hP hD hS => k H locs ls (by rw [← gw_setO]; exact hP) hS hl)
end gwR
theorem gw_vC {i : Int32} (h : vp_in i 20) : gw_kC (4 + i.toNatClampNeg) := by
  have h1 : i.toNatClampNeg < 20 := Nat.not_le.mp fun q => h (Or.inr q)
  exact ⟨by omega, by omega⟩
theorem gw_vS {i : Int32} (h : vp_in i 16) : gw_kS (24 + i.toNatClampNeg) := by
  have h1 : i.toNatClampNeg < 16 := Nat.not_le.mp fun q => h (Or.inr q)
  exact ⟨by omega, by omega⟩
/-- a loop: a step goes on with a new state, or is through -/
def gw_it {S T : Type} (f : S → Option (S ⊕ T)) : Nat → S → Option T
  | 0, _ => none
  | n + 1, s => match f s with
    | none => none
    | some (.inl s') => gw_it f n s'
    | some (.inr t) => some t
theorem gw_it_s {S T : Type} {f : S → Option (S ⊕ T)} {n : Nat} {s : S} {t : T} (h : gw_it f (n + 1) s = some t) : ∃ r, f s = some r ∧ ((∃ s', r = .inl s' ∧ gw_it f n s' = some t) ∨ r = .inr t) := by
  rw [gw_it] at h
  cases hf : f s with
  | none => rw [hf] at h; cases h
  | some r =>
    rw [hf] at h
    cases r with
    | inl s' => exact ⟨_, rfl, Or.inl ⟨s', rfl, h⟩⟩
    | inr t' => cases h; exact ⟨_, rfl, Or.inr rfl⟩
theorem gw_ift {c : Prop} [Decidable c] {α : Type} {a b : α} {r : α} (h : (if c then a else b) = r) (hc : c) : a = r := by rw [if_pos hc] at h; exact h
theorem gw_iff {c : Prop} [Decidable c] {α : Type} {a b : α} {r : α} (h : (if c then a else b) = r) (hc : ¬ c) : b = r := by rw [if_neg hc] at h; exact h
theorem gw_ifs {c : Prop} [Decidable c] {α : Type} {a : Option α} {r : α} (h : (if c then a else none) = some r) : c ∧ a = some r := by
  by_cases hc : c
  · rw [if_pos hc] at h; exact ⟨hc, h⟩
  · rw [if_neg hc] at h; cases h
theorem gw_bnd {α β : Type} {a : Option α} {f : α → Option β} {r : β} (h : a.bind f = some r) : ∃ y, a = some y ∧ f y = some r := Option.bind_eq_some_iff.mp h
/-- what a method that may throw gives: an answer, or an exception's name -/
def gw_xb {ρ β : Type} (r : ρ ⊕ String) (a : ρ → β) (b : String → β) : β := match r with
  | .inl v => a v
  | .inr e => b e
theorem gw_xl {ρ β : Type} {r : ρ ⊕ String} {a : ρ → β} {b : String → β} {v : ρ} {z : β} (h : gw_xb r a b = z) (e : r = .inl v) : a v = z := by rw [e] at h; exact h
theorem gw_xr {ρ β : Type} {r : ρ ⊕ String} {a : ρ → β} {b : String → β} {v : String} {z : β} (h : gw_xb r a b = z) (e : r = .inr v) : b v = z := by rw [e] at h; exact h
end
section
/-! CONTRACTS: how a method is entered, how it ends, how it is called -/
def gw_B (Γ : gw_G) (ws : va_W) : Unit → State → Prop := fun _ t => va_P (gw_D Γ) vwCl ws t.heap
def gw_qi (Γ : gw_G) (r : Int32) (ws1 : va_W) : Array Value → State → Outcome → State → Prop := va_Qi (fun r' (_ : Unit) => r' = r) (gw_B Γ ws1) (gw_A Γ)
def gw_qv (Γ : gw_G) (ws1 : va_W) : Array Value → State → Outcome → State → Prop := va_Qv (fun (_ : Unit) => True) (gw_B Γ ws1) (gw_A Γ)
def gw_qr (Γ : gw_G) (k : Nat) (ws1 : va_W) : Array Value → State → Outcome → State → Prop := va_Qq (fun r (_ : Unit) => r = some (gw_a Γ k)) (gw_B Γ ws1) (gw_A Γ)
def gw_qI (Γ : gw_G) (res : Int32 ⊕ String) (ws1 : va_W) : Array Value → State → Outcome → State → Prop := va_Qi (fun r (_ : Unit) => res = .inl r) (gw_B Γ ws1) (gw_A Γ)
def gw_qR (Γ : gw_G) (res : Nat ⊕ String) (ws1 : va_W) : Array Value → State → Outcome → State → Prop := va_Qq (fun r (_ : Unit) => ∃ k, res = .inl k ∧ r = some (gw_a Γ k)) (gw_B Γ ws1) (gw_A Γ)
def gw_x {ρ : Type} (Γ : gw_G) (res : ρ ⊕ String) (ws1 : va_W) : String → State → State → Prop := vx_X (fun (_ : Unit) => True) (fun E _ t => res = .inr E ∧ va_P (gw_D Γ) vwCl ws1 t.heap) (gw_A Γ)
def gw_M (l : Launch) (y : MethodName) (ws : List Cond) (rm : Room) (mc ms : Nat) (Γ : gw_G) (As : List Value) (ws0 : va_W) (Qc : Array Value → State → Outcome → State → Prop) : Prop :=
  Met l y ws rm (va_Pc As (gw_P Γ l ws0)) Qc mc ms (gw_A Γ)
def gw_MX (l : Launch) (y : MethodName) (ws : List Cond) (rm : Room) (mc ms : Nat) (Γ : gw_G) (As : List Value) (ws0 : va_W) (Qc : Array Value → State → Outcome → State → Prop) (XC : String → State → State → Prop) : Prop :=
  vx_Met l y ws rm (va_Pc As (gw_P Γ l ws0)) Qc XC mc ms (gw_A Γ)
def gw_E (K : gw_K) (Γ : gw_G) (Qc : Array Value → State → Outcome → State → Prop) (mc ms : Nat) (ret : Option FieldType) : Prop :=
  (gw_me K).sig.returnType = ret ∧ gw_Q K = MQ (gw_b K) Qc (gw_as K) (gw_s K) mc ms (gw_A Γ)
def gw_EX (K : gw_K) (Γ : gw_G) (Qc : Array Value → State → Outcome → State → Prop) (XC : String → State → State → Prop) (mc ms : Nat) (ret : Option FieldType) : Prop :=
  (gw_me K).sig.returnType = ret ∧ gw_Q K = vx_MQ (gw_b K) Qc XC (gw_as K) (gw_s K) mc ms (gw_A Γ) ∧ ∀ x ∈ (gw_c K).exceptionTable.toList, False
theorem gw_enter {l : Launch} {y : MethodName} {cc : ByteArray} {maxL mc ms : Nat} {ret : Option FieldType} {rm : Room} {Γ : gw_G} {As : List Value} {ws0 : va_W} {Qc : Array Value → State → Outcome → State → Prop} (hy : plainName y.cls = true) (hn : (lg_sl As).length ≤ maxL)
    (body : ∀ K : gw_K, gw_C K Γ cc maxL y.cls → gw_E K Γ Qc mc ms ret → gw_J K Γ rm 0 0 ws0 0 (lv_args 0 As) []) : gw_M l y [.code y cc maxL ret] rm mc ms Γ As ws0 Qc := by
  refine Met.ofW (cc := cc) (maxL := maxL) (ret := ret) hy rfl ?_
  intro p e s m args below meth c s₁ B hml hv
  obtain ⟨rfl, hP, hH⟩ := hv
  rw [lg_entry_eq]
  exact body (p, l, e, s, m, As.toArray, below, meth, c, MQ below Qc As.toArray s mc ms (gw_A Γ)) ⟨B.exec, B.bytes, hml, findClass_of_methodNamed B.named, hH, B.notSynchronized⟩ ⟨B.returns, rfl⟩ s.heap [] _ hP va_S.rf (by show lv_has _ c.maxLocals _; rw [hml]; exact lv_entry As hn)
theorem gw_enterX {l : Launch} {y : MethodName} {cc : ByteArray} {maxL mc ms : Nat} {ret : Option FieldType} {rm : Room} {Γ : gw_G} {As : List Value} {ws0 : va_W} {Qc : Array Value → State → Outcome → State → Prop} {XC : String → State → State → Prop} (hy : plainName y.cls = true) (hn : (lg_sl As).length ≤ maxL)
    (body : ∀ K : gw_K, gw_C K Γ cc maxL y.cls → gw_EX K Γ Qc XC mc ms ret → gw_J K Γ rm 0 0 ws0 0 (lv_args 0 As) []) : gw_MX l y [.code y cc maxL ret] rm mc ms Γ As ws0 Qc XC := by
  refine vx_ofW (cc := cc) (maxL := maxL) (ret := ret) hy rfl ?_
  intro p e s m args below meth c s₁ B hml htab hv
  obtain ⟨rfl, hP, hH⟩ := hv
  rw [lg_entry_eq]
  exact body (p, l, e, s, m, As.toArray, below, meth, c, vx_MQ below Qc XC As.toArray s mc ms (gw_A Γ)) ⟨B.exec, B.bytes, hml, findClass_of_methodNamed B.named, hH, B.notSynchronized⟩ ⟨B.returns, rfl, htab⟩ s.heap [] _ hP va_S.rf (by show lv_has _ c.maxLocals _; rw [hml]; exact lv_entry As hn)
section gwE
variable {K : gw_K} {Γ : gw_G} {R : Room} {cells slots pc mc ms : Nat} {ws ws1 : va_W} {lv : List (Nat × Value)} {rest : List Value} {cc : ByteArray} {nL : Nat} {own : String} {Qc : Array Value → State → Outcome → State → Prop} {XC : String → State → State → Prop} {ret : Option FieldType}
theorem gj_iret (C : gw_C K Γ cc nL own) {r : Int32} (E : gw_E K Γ (gw_qi Γ r ws1) mc ms (some .int)) (hd : decode cc pc = .ok (.ireturn, 1)) (hc : cells ≤ mc) (hs : slots ≤ ms) : gw_J K Γ R cells slots ws1 pc lv [.int r] := fun H locs ls hP hS hl => by
  refine W.widen hc hs ?_
  rw [E.2]
  exact W.iret C.1 C.2.1 E.1 (fun t ht hW => ⟨⟨r, (), rfl, rfl, by show va_P _ _ _ t.heap; rw [ht]; exact hP⟩, hS.F ht⟩) hS.2.2 hd C.locks
theorem gj_zret (C : gw_C K Γ cc nL own) {r : Int32} (E : gw_E K Γ (gw_qi Γ r ws1) mc ms (some .boolean)) (hn : narrow .boolean (.int r) = .int r) (hd : decode cc pc = .ok (.ireturn, 1)) (hc : cells ≤ mc) (hs : slots ≤ ms) : gw_J K Γ R cells slots ws1 pc lv [.int r] := fun H locs ls hP hS hl => by
  refine W.widen hc hs ?_
  rw [E.2]
  exact W.zret C.1 C.2.1 E.1 hn (fun t ht hW => ⟨⟨r, (), rfl, rfl, by show va_P _ _ _ t.heap; rw [ht]; exact hP⟩, hS.F ht⟩) hS.2.2 hd C.locks
theorem gj_vret (C : gw_C K Γ cc nL own) (E : gw_E K Γ (gw_qv Γ ws1) mc ms none) (hd : decode cc pc = .ok (.return_, 1)) (hc : cells ≤ mc) (hs : slots ≤ ms) : gw_J K Γ R cells slots ws1 pc lv [] := fun H locs ls hP hS hl => by
  refine W.widen hc hs ?_
  rw [E.2]
  exact W.vret C.1 C.2.1 E.1 (fun t ht hW => ⟨⟨(), rfl, trivial, by show va_P _ _ _ t.heap; rw [ht]; exact hP⟩, hS.F ht⟩) hS.2.2 hd C.locks
theorem gj_aret (C : gw_C K Γ cc nL own) {k : Nat} {cn : String} (E : gw_E K Γ (gw_qr Γ k ws1) mc ms (some (.object cn))) (hd : decode cc pc = .ok (.areturn, 1)) (hc : cells ≤ mc) (hs : slots ≤ ms) : gw_J K Γ R cells slots ws1 pc lv [.ref (gw_a Γ k)] := fun H locs ls hP hS hl => by
  refine W.widen hc hs ?_
  rw [E.2]
  exact W.aret C.1 C.2.1 E.1 (Or.inl ⟨cn, rfl⟩) (Or.inr ⟨_, rfl⟩) (fun t ht hW => ⟨⟨some (gw_a Γ k), (), rfl, rfl, by show va_P _ _ _ t.heap; rw [ht]; exact hP⟩, hS.F ht⟩) hS.2.2 hd C.locks
theorem gj_iretX (C : gw_C K Γ cc nL own) {r : Int32} {res : Int32 ⊕ String} (hres : res = .inl r) (E : gw_EX K Γ (gw_qI Γ res ws1) XC mc ms (some .int)) (hd : decode cc pc = .ok (.ireturn, 1)) (hc : cells ≤ mc) (hs : slots ≤ ms) : gw_J K Γ R cells slots ws1 pc lv [.int r] := fun H locs ls hP hS hl => by
  refine W.widen hc hs ?_
  rw [E.2.1]
  exact vx_ret (W.iret C.1 C.2.1 E.1 (fun t ht hW => ⟨⟨r, (), rfl, hres, by show va_P _ _ _ t.heap; rw [ht]; exact hP⟩, hS.F ht⟩) hS.2.2 hd C.locks)
theorem gj_zretX (C : gw_C K Γ cc nL own) {r : Int32} {res : Int32 ⊕ String} (hres : res = .inl r) (E : gw_EX K Γ (gw_qI Γ res ws1) XC mc ms (some .boolean)) (hn : narrow .boolean (.int r) = .int r) (hd : decode cc pc = .ok (.ireturn, 1)) (hc : cells ≤ mc) (hs : slots ≤ ms) : gw_J K Γ R cells slots ws1 pc lv [.int r] := fun H locs ls hP hS hl => by
  refine W.widen hc hs ?_
  rw [E.2.1]
  exact vx_ret (W.zret C.1 C.2.1 E.1 hn (fun t ht hW => ⟨⟨r, (), rfl, hres, by show va_P _ _ _ t.heap; rw [ht]; exact hP⟩, hS.F ht⟩) hS.2.2 hd C.locks)
theorem gj_aretX (C : gw_C K Γ cc nL own) {k : Nat} {cn : String} {res : Nat ⊕ String} (hres : res = .inl k) (E : gw_EX K Γ (gw_qR Γ res ws1) XC mc ms (some (.object cn))) (hd : decode cc pc = .ok (.areturn, 1)) (hc : cells ≤ mc) (hs : slots ≤ ms) : gw_J K Γ R cells slots ws1 pc lv [.ref (gw_a Γ k)] := fun H locs ls hP hS hl => by
  refine W.widen hc hs ?_
  rw [E.2.1]
  exact vx_ret (W.aret C.1 C.2.1 E.1 (Or.inl ⟨cn, rfl⟩) (Or.inr ⟨_, rfl⟩) (fun t ht hW => ⟨⟨some (gw_a Γ k), (), rfl, ⟨k, hres, rfl⟩, by show va_P _ _ _ t.heap; rw [ht]; exact hP⟩, hS.F ht⟩) hS.2.2 hd C.locks)
/-- not caught: it goes on -/
theorem gj_out {ρ : Type} (C : gw_C K Γ cc nL own) {x : String} {res : ρ ⊕ String} (hres : res = .inr x) (E : gw_EX K Γ Qc (gw_x Γ res ws1) mc ms ret) (hc : cells ≤ mc) (hs : slots ≤ ms) : gw_JX K Γ R cells slots ws1 pc lv x := fun H locs ls rest q ce hP hS hl hq hv hcl => by
  rw [E.2.1]
  exact vx_out (fun x hx => absurd hx (E.2.2 x)) C.locks hq hv hcl (fun t ht hA => ⟨(), trivial, ⟨hres, by rw [ht]; exact hP⟩, hS.F ht⟩) hS.2.2 hc hs
/-- throw new x(text) -/
theorem gj_throw {ρ : Type} (C : gw_C K Γ cc nL RX3) {x text : String} {ik is ic : Nat} {res : ρ ⊕ String} (hres : res = .inr x) (E : gw_EX K Γ Qc (gw_x Γ res ws1) mc ms ret) (hf : Bundle.fit x = true) (hk : Cond.classLink RX3 ik x ∈ gw_L) (hi : Cond.initialized x ∈ gw_L) (hst : (is, text) ∈ gw_ST) (hat : ∀ w ∈ vx_atS RX3 ic x ["java/lang/RuntimeException", "java/lang/Exception"], w ∈ gw_L)
    (d0 : decode cc pc = .ok (.new ik, 3)) (d3 : decode cc (pc + 3) = .ok (.dup, 1)) (d4 : decode cc (pc + 4) = .ok (.ldc is, 2)) (d6 : decode cc (pc + 6) = .ok (.invokespecial ic, 3)) (d9 : decode cc (pc + 9) = .ok (.athrow, 1))
    (r1 : 5 < R.frames ∧ 82 ≤ R.locals) (r2 : cells + 1 ≤ R.cells ∧ slots + 6 ≤ R.slots) (hc : cells + 1 ≤ mc) (hs : slots + 6 ≤ ms) : gw_J K Γ R cells slots ws1 pc lv [] := fun H locs ls hP hS hl => by
  rw [E.2.1]
  refine vx_throwS (sa := gw_sa Γ is) C.1 C.2.1 C.hh.2.2.2.2.1 C.ow hf (by decide +kernel) (C.ws _ hk) (C.ws _ hi) (C.hh.2.2.2.2.2.2.2.1 (is, text) hst) (fun w hw => C.ws w (hat w hw)) (fun w hw => ?_) C.hh.2.2.2.2.2.1 C.hh.2.2.2.2.2.2.1 hS hl.1 d0 d3 d4 d6 d9 (fun x hx => absurd hx (E.2.2 x)) r1.1 (by simpa using r1.2) r2.1 r2.2 C.locks (fun t hA hz ht => ⟨(), trivial, ⟨hres, hP.kept (fun k q hk => ht q.1 (hP k q hk).lt)⟩, Nat.le_trans hS.1 hz, fun q h1 h2 => by rw [ht q (Nat.lt_of_lt_of_le h1 hS.1)]; exact hS.2.1 q h1 h2⟩) hS.2.2 hc hs
  unfold vx_ot
  rcases List.mem_cons.mp hw with rfl | hw
  · rfl
  · rcases List.mem_cons.mp hw with rfl | hw
    · rfl
    · rw [gw_tab (hat w hw)]; rfl
/-- throw new x(text), the text by a wide index -/
theorem gj_throwW {ρ : Type} (C : gw_C K Γ cc nL RX3) {x text : String} {ik is ic : Nat} {res : ρ ⊕ String} (hres : res = .inr x) (E : gw_EX K Γ Qc (gw_x Γ res ws1) mc ms ret) (hf : Bundle.fit x = true) (hk : Cond.classLink RX3 ik x ∈ gw_L) (hi : Cond.initialized x ∈ gw_L) (hst : (is, text) ∈ gw_ST) (hat : ∀ w ∈ vx_atS RX3 ic x ["java/lang/RuntimeException", "java/lang/Exception"], w ∈ gw_L)
    (d0 : decode cc pc = .ok (.new ik, 3)) (d3 : decode cc (pc + 3) = .ok (.dup, 1)) (d4 : decode cc (pc + 4) = .ok (.ldc_w is, 3)) (d6 : decode cc (pc + 7) = .ok (.invokespecial ic, 3)) (d9 : decode cc (pc + 10) = .ok (.athrow, 1))
    (r1 : 5 < R.frames ∧ 82 ≤ R.locals) (r2 : cells + 1 ≤ R.cells ∧ slots + 6 ≤ R.slots) (hc : cells + 1 ≤ mc) (hs : slots + 6 ≤ ms) : gw_J K Γ R cells slots ws1 pc lv [] := fun H locs ls hP hS hl => by
  rw [E.2.1]
  refine vx_throwSW (sa := gw_sa Γ is) C.1 C.2.1 C.hh.2.2.2.2.1 C.ow hf (by decide +kernel) (C.ws _ hk) (C.ws _ hi) (C.hh.2.2.2.2.2.2.2.1 (is, text) hst) (fun w hw => C.ws w (hat w hw)) (fun w hw => ?_) C.hh.2.2.2.2.2.1 C.hh.2.2.2.2.2.2.1 hS hl.1 d0 d3 d4 d6 d9 (fun x hx => absurd hx (E.2.2 x)) r1.1 (by simpa using r1.2) r2.1 r2.2 C.locks (fun t hA hz ht => ⟨(), trivial, ⟨hres, hP.kept (fun k q hk => ht q.1 (hP k q hk).lt)⟩, Nat.le_trans hS.1 hz, fun q h1 h2 => by rw [ht q (Nat.lt_of_lt_of_le h1 hS.1)]; exact hS.2.1 q h1 h2⟩) hS.2.2 hc hs
  unfold vx_ot
  rcases List.mem_cons.mp hw with rfl | hw
  · rfl
  · rcases List.mem_cons.mp hw with rfl | hw
    · rfl
    · rw [gw_tab (hat w hw)]; rfl
end gwE
/-- what a call needs of the tables -/
def gw_cb (own : String) (index : Nat) (y : MethodName) (cc : ByteArray) (maxL : Nat) (ret : Option FieldType) (n : Nat) : Prop := Cond.code y cc maxL ret ∈ gw_L ∧ Cond.initialized y.cls ∈ gw_L ∧ (y.cls ≠ "java/lang/invoke/MethodHandle" ∧ y.cls ≠ "java/lang/invoke/VarHandle") ∧ (parseMethodDescriptor y.desc).map (fun d => d.parameters.length) = some n ∧ Cond.methodLink own index y ∈ gw_L
def gw_cv (own : String) (index : Nat) (y : MethodName) (cc : ByteArray) (maxL : Nat) (ret : Option FieldType) (n : Nat) : Prop := gw_cb own index y cc maxL ret n ∧ Cond.instanceMethod y ∈ gw_L ∧ Cond.selects y.cls y y ∈ gw_L
def gw_cs (own : String) (index : Nat) (y : MethodName) (cc : ByteArray) (maxL : Nat) (ret : Option FieldType) (n : Nat) : Prop := gw_cb own index y cc maxL ret n ∧ Cond.static y ∈ gw_L
/-- what a call needs of the room -/
def gw_rm (rm R : Room) (maxL mc ms cells slots : Nat) : Prop := rm.cells = mc ∧ rm.slots = ms ∧ rm.frames + 1 ≤ R.frames ∧ 8 + (maxL + 11) + rm.locals ≤ R.locals ∧ cells + mc ≤ R.cells ∧ slots + ms ≤ R.slots
section gwQ
variable {p : Program} {l : Launch} {e : Env} {R : Room} {s : State} {m : MethodId} {args : Array Value} {below : List Frame} {meth : Method} {c : Code} {H : Heap} {locs : List Loc} {cells slots : Nat} {Q : State → Prop}
variable {mc ms : Nat} {free : Addr → Prop} {A0 A1 : Nat → Prop} {H0 : Heap} {a : Array Value} {pc : Nat} {ls : Array Slot} {st0 rest : List Value}
theorem gw_callq {S SX : Type} {post : Option Nat → S → Prop} {px : SX → Prop} {B : S → State → Prop} {BX : String → SX → State → Prop} {AX : Nat → Prop} (hr : vx_Run p l e R s m args below meth c H locs cells slots mc ms (F0 m pc ls st0) rest (va_Qq post B A1 a) (vx_X px BX AX) free) (hS : va_S A0 H0 H locs) (hA : ∀ q, q < H.size → A1 q → A0 q) (hf : ∀ q, free q → A0 q) (hAX : ∀ q, q < H.size → AX q → A0 q)
    (kx : ∀ (E : String) (ce : Cell) (q9 : Addr) (u : SX) (t : State) (H1 : Heap) (locs1 : List Loc), t.heap = H1 → s.vm.Alike t.vm → px u → BX E u t → H.size ≤ H1.size → (∀ q : Nat, q < H.size → ¬ AX q → H1[q]? = H[q]?) → va_S A0 H0 H1 locs1 → H1[q9]? = some ce → ce.vm = .none → s.vm.findClass E = some ce.cls → vx_W p l e R s m args below meth c H1 locs1 (cells + mc) (slots + ms) Q (F0 m pc ls rest) q9)
    (kk : ∀ (r : Option Nat) (u : S) (t : State) (H1 : Heap) (locs1 : List Loc), t.heap = H1 → s.vm.Alike t.vm → post r u → B u t → H.size ≤ H1.size → (∀ q : Nat, q < H.size → ¬ A1 q → H1[q]? = H[q]?) → va_S A0 H0 H1 locs1 → W p l e R s m args below meth c H1 locs1 (cells + mc) (slots + ms) Q (F0 m (pc + 3) ls (va_rf r :: rest))) : W p l e R s m args below meth c H locs cells slots Q (F0 m pc ls st0) := by
  intro T hT X
  rcases hr T hT X with ⟨v, st₀, t, T', L, h0, X', hL, e1, e2, ⟨⟨r, u, hv, hp, hb⟩, hF⟩, st⟩ | ⟨q, st₀, t, T', L, E, ce, h0, X', hL, e1, e2, ⟨u, hp, hb, hF⟩, hce, hcv, hcl, st⟩
  · cases hv
    obtain ⟨k1, k2, k3⟩ := vx_keep h0 e1 hS hA hf hL hF
    obtain ⟨t2, a1, b1⟩ := kk r u t T'.heap (locs ++ L) e1.symm (by rw [← e2]; exact X'.warmed.alike) hp hb k1 k2 k3 T' rfl X'
    exact ⟨t2, st t2 a1, b1⟩
  · obtain ⟨k1, k2, k3⟩ := vx_keep h0 e1 hS hAX hf hL hF
    obtain ⟨t2, a1, b1⟩ := kx E ce q u t T'.heap (locs ++ L) e1.symm (by rw [← e2]; exact X'.warmed.alike) hp hb k1 k2 k3 (by rw [e1]; exact hce) hcv hcl T' rfl X'
    exact ⟨t2, st.trans a1, b1⟩
end gwQ
section gwK
variable {K : gw_K} {Γ : gw_G} {R rm : Room} {cells slots pc mc ms : Nat} {ws ws1 : va_W} {lv : List (Nat × Value)} {rest st : List Value} {cc : ByteArray} {nL : Nat} {own : String} {Qc : Array Value → State → Outcome → State → Prop} {XC : String → State → State → Prop} {ret : Option FieldType}
  {index maxL n : Nat} {y : MethodName} {c2 : ByteArray} {As : List Value} {H : Heap} {locs : List Loc} {ls : Array Slot}
theorem gw_CB (C : gw_C K Γ cc nL own) (cb : gw_cb own index y c2 maxL ret n) (hr : gw_rm rm R maxL mc ms cells slots) : CallB R (gw_s K) (gw_as K) own index y c2 maxL ret [.code y c2 maxL ret] rm mc ms n := by
  refine ⟨hr.1, hr.2.1, hr.2.2.1, hr.2.2.2.1, fun w hw a' U hW => ?_, List.mem_cons_self, C.ws _ cb.1, C.ws _ cb.2.1, cb.2.2.1, fun sig h => ?_, C.ws _ cb.2.2.2.2⟩
  · rw [List.mem_singleton.mp hw]
    exact va_Nw.use rfl (gw_warm cb.1 hW (C.hh.1 _ cb.1))
  · have h2 := cb.2.2.2.1
    rw [h] at h2
    exact (Option.some.inj h2).symm
theorem gw_blind {l : Launch} {ws : va_W} {As : List Value} : FrameBlind (va_Pc As (gw_P Γ l ws)) := fun a U g mk h => ⟨h.1, h.2.1, h.2.2.call g mk a⟩
theorem gw_pre (C : gw_C K Γ cc nL own) (hP : va_P (gw_D Γ) vwCl ws H) (hS : va_S (gw_A Γ) (gw_s K).heap H locs) (As : List Value) : ∀ U : State, U.heap = H → (gw_s K).WarmedH U.vm → va_Pc As (gw_P Γ (gw_l K) ws) As.toArray U := fun U hU hW => ⟨rfl, by rw [hU]; exact hP, C.hh.step hS hU hW⟩
theorem gw_runV (C : gw_C K Γ cc nL own) (cv : gw_cv own index y c2 maxL ret n) {a q ci : Nat} {fs : List Value} {qq : vw_C} (hM : gw_M (gw_l K) y [.code y c2 maxL ret] rm mc ms Γ (.ref a :: As) ws Qc) (hn : As.length = n) (hrest : (rest.map fun v => v.category).sum ≤ 8)
    (he : ws[q]? = some (a, .inr (ci, fs))) (hci : vwCl[ci]? = some qq) (hq : qq.1 = y.cls) (hd : decode cc pc = .ok (.invokevirtual index, 3)) (hr : gw_rm rm R maxL mc ms cells slots) (hst : As.reverse ++ .ref a :: rest = st)
    (hP : va_P (gw_D Γ) vwCl ws H) (hS : va_S (gw_A Γ) (gw_s K).heap H locs) (hl : lv_has ls (gw_c K).maxLocals lv) :
    va_Run (gw_p K) (gw_l K) (gw_en K) R (gw_s K) (gw_m K) (gw_as K) (gw_b K) (gw_me K) (gw_c K) H locs cells slots mc ms (F0 (gw_m K) pc ls st) rest (Qc (.ref a :: As).toArray) (gw_A Γ) := by
  refine va_runV C.fix hM ⟨gw_CB C cv.1 hr, C.ws _ cv.2.1, C.ws _ cv.2.2⟩ ⟨gw_blind, ?_, gw_pre C hP hS _⟩ rfl hn (hl.1.trans C.2.2.1) hst.symm (lv_room hrest) hd ⟨hr.2.2.2.2.1, hr.2.2.2.2.2⟩
  rw [← hq]
  exact va_recv C.k hP hci he
theorem gw_runS (C : gw_C K Γ cc nL own) (cs : gw_cs own index y c2 maxL ret n) (hM : gw_M (gw_l K) y [.code y c2 maxL ret] rm mc ms Γ As ws Qc) (hn : As.length = n) (hrest : (rest.map fun v => v.category).sum ≤ 8)
    (hd : decode cc pc = .ok (.invokestatic index, 3)) (hr : gw_rm rm R maxL mc ms cells slots) (hst : As.reverse ++ rest = st)
    (hP : va_P (gw_D Γ) vwCl ws H) (hS : va_S (gw_A Γ) (gw_s K).heap H locs) (hl : lv_has ls (gw_c K).maxLocals lv) :
    va_Run (gw_p K) (gw_l K) (gw_en K) R (gw_s K) (gw_m K) (gw_as K) (gw_b K) (gw_me K) (gw_c K) H locs cells slots mc ms (F0 (gw_m K) pc ls st) rest (Qc As.toArray) (gw_A Γ) :=
  va_runS C.fix hM ⟨gw_CB C cs.1 hr, C.ws _ cs.2⟩ ⟨gw_blind, gw_pre C hP hS _⟩ rfl hn (hl.1.trans C.2.2.1) hst.symm (lv_room hrest) hd ⟨hr.2.2.2.2.1, hr.2.2.2.2.2⟩
theorem gw_runVX (C : gw_C K Γ cc nL own) (cv : gw_cv own index y c2 maxL ret n) {a q ci : Nat} {fs : List Value} {qq : vw_C} (hM : gw_MX (gw_l K) y [.code y c2 maxL ret] rm mc ms Γ (.ref a :: As) ws Qc XC) (hn : As.length = n) (hrest : (rest.map fun v => v.category).sum ≤ 8)
    (he : ws[q]? = some (a, .inr (ci, fs))) (hci : vwCl[ci]? = some qq) (hq : qq.1 = y.cls) (hd : decode cc pc = .ok (.invokevirtual index, 3)) (hr : gw_rm rm R maxL mc ms cells slots) (hst : As.reverse ++ .ref a :: rest = st)
    (hP : va_P (gw_D Γ) vwCl ws H) (hS : va_S (gw_A Γ) (gw_s K).heap H locs) (hl : lv_has ls (gw_c K).maxLocals lv) :
    vx_Run (gw_p K) (gw_l K) (gw_en K) R (gw_s K) (gw_m K) (gw_as K) (gw_b K) (gw_me K) (gw_c K) H locs cells slots mc ms (F0 (gw_m K) pc ls st) rest (Qc (.ref a :: As).toArray) XC (gw_A Γ) := by
  refine vx_runV C.fix hM ⟨gw_CB C cv.1 hr, C.ws _ cv.2.1, C.ws _ cv.2.2⟩ ⟨gw_blind, ?_, gw_pre C hP hS _⟩ rfl hn (hl.1.trans C.2.2.1) hst.symm (lv_room hrest) hd ⟨hr.2.2.2.2.1, hr.2.2.2.2.2⟩
  rw [← hq]
  exact va_recv C.k hP hci he
theorem gw_runSX (C : gw_C K Γ cc nL own) (cs : gw_cs own index y c2 maxL ret n) (hM : gw_MX (gw_l K) y [.code y c2 maxL ret] rm mc ms Γ As ws Qc XC) (hn : As.length = n) (hrest : (rest.map fun v => v.category).sum ≤ 8)
    (hd : decode cc pc = .ok (.invokestatic index, 3)) (hr : gw_rm rm R maxL mc ms cells slots) (hst : As.reverse ++ rest = st)
    (hP : va_P (gw_D Γ) vwCl ws H) (hS : va_S (gw_A Γ) (gw_s K).heap H locs) (hl : lv_has ls (gw_c K).maxLocals lv) :
    vx_Run (gw_p K) (gw_l K) (gw_en K) R (gw_s K) (gw_m K) (gw_as K) (gw_b K) (gw_me K) (gw_c K) H locs cells slots mc ms (F0 (gw_m K) pc ls st) rest (Qc As.toArray) XC (gw_A Γ) :=
  vx_runS C.fix hM ⟨gw_CB C cs.1 hr, C.ws _ cs.2⟩ ⟨gw_blind, gw_pre C hP hS _⟩ rfl hn (hl.1.trans C.2.2.1) hst.symm (lv_room hrest) hd ⟨hr.2.2.2.2.1, hr.2.2.2.2.2⟩
theorem gj_cVi (C : gw_C K Γ cc nL own) (cv : gw_cv own index y c2 maxL ret n) {a q ci : Nat} {fs : List Value} {qq : vw_C} {r : Int32} (hM : gw_M (gw_l K) y [.code y c2 maxL ret] rm mc ms Γ (.ref a :: As) ws (gw_qi Γ r ws1)) (hn : As.length = n) (hrest : (rest.map fun v => v.category).sum ≤ 8) (he : ws[q]? = some (a, .inr (ci, fs))) (hci : vwCl[ci]? = some qq) (hq : qq.1 = y.cls) (hd : decode cc pc = .ok (.invokevirtual index, 3)) (hr : gw_rm rm R maxL mc ms cells slots) (hst : As.reverse ++ .ref a :: rest = st) (k : gw_J K Γ R (cells + mc) (slots + ms) ws1 (pc + 3) lv (.int r :: rest)) : gw_J K Γ R cells slots ws pc lv st := fun H locs ls hP hS hl => va_calli (gw_runV C cv hM hn hrest he hci hq hd hr hst hP hS hl) hS (fun q _ h => h) (fun q h => h) (fun r1 u t H1 locs1 ht hvm hw hB hz hk hS1 => by
  cases hw
  exact k H1 locs1 ls (by rw [← ht]; exact hB) hS1 hl)
theorem gj_cVv (C : gw_C K Γ cc nL own) (cv : gw_cv own index y c2 maxL ret n) {a q ci : Nat} {fs : List Value} {qq : vw_C}  (hM : gw_M (gw_l K) y [.code y c2 maxL ret] rm mc ms Γ (.ref a :: As) ws (gw_qv Γ ws1)) (hn : As.length = n) (hrest : (rest.map fun v => v.category).sum ≤ 8) (he : ws[q]? = some (a, .inr (ci, fs))) (hci : vwCl[ci]? = some qq) (hq : qq.1 = y.cls) (hd : decode cc pc = .ok (.invokevirtual index, 3)) (hr : gw_rm rm R maxL mc ms cells slots) (hst : As.reverse ++ .ref a :: rest = st) (k : gw_J K Γ R (cells + mc) (slots + ms) ws1 (pc + 3) lv rest) : gw_J K Γ R cells slots ws pc lv st := fun H locs ls hP hS hl => va_callv (gw_runV C cv hM hn hrest he hci hq hd hr hst hP hS hl) hS (fun q _ h => h) (fun q h => h) (fun u t H1 locs1 ht hvm hw hB hz hk hS1 => k H1 locs1 ls (by rw [← ht]; exact hB) hS1 hl)
theorem gj_cVr (C : gw_C K Γ cc nL own) (cv : gw_cv own index y c2 maxL ret n) {a q ci : Nat} {fs : List Value} {qq : vw_C} {k0 : Nat} (hM : gw_M (gw_l K) y [.code y c2 maxL ret] rm mc ms Γ (.ref a :: As) ws (gw_qr Γ k0 ws1)) (hn : As.length = n) (hrest : (rest.map fun v => v.category).sum ≤ 8) (he : ws[q]? = some (a, .inr (ci, fs))) (hci : vwCl[ci]? = some qq) (hq : qq.1 = y.cls) (hd : decode cc pc = .ok (.invokevirtual index, 3)) (hr : gw_rm rm R maxL mc ms cells slots) (hst : As.reverse ++ .ref a :: rest = st) (k : gw_J K Γ R (cells + mc) (slots + ms) ws1 (pc + 3) lv (.ref (gw_a Γ k0) :: rest)) : gw_J K Γ R cells slots ws pc lv st := fun H locs ls hP hS hl => va_callq (gw_runV C cv hM hn hrest he hci hq hd hr hst hP hS hl) hS (fun q _ h => h) (fun q h => h) (fun r1 u t H1 locs1 ht hvm hw hB hz hk hS1 => by
  cases hw
  exact k H1 locs1 ls (by rw [← ht]; exact hB) hS1 hl)
theorem gj_cVI (C : gw_C K Γ cc nL own) (cv : gw_cv own index y c2 maxL ret n) {a q ci : Nat} {fs : List Value} {qq : vw_C} {res : Int32 ⊕ String} (hM : gw_MX (gw_l K) y [.code y c2 maxL ret] rm mc ms Γ (.ref a :: As) ws (gw_qI Γ res ws1) (gw_x Γ res ws1)) (hn : As.length = n) (hrest : (rest.map fun v => v.category).sum ≤ 8) (he : ws[q]? = some (a, .inr (ci, fs))) (hci : vwCl[ci]? = some qq) (hq : qq.1 = y.cls) (hd : decode cc pc = .ok (.invokevirtual index, 3)) (hr : gw_rm rm R maxL mc ms cells slots) (hst : As.reverse ++ .ref a :: rest = st) (kx : ∀ E : String, res = .inr E → gw_JX K Γ R (cells + mc) (slots + ms) ws1 pc lv E) (k : ∀ r : Int32, res = .inl r → gw_J K Γ R (cells + mc) (slots + ms) ws1 (pc + 3) lv (.int r :: rest)) : gw_J K Γ R cells slots ws pc lv st := fun H locs ls hP hS hl => vx_calli (gw_runVX C cv hM hn hrest he hci hq hd hr hst hP hS hl) hS (fun q _ h => h) (fun q h => h) (fun q _ h => h) (fun E ce q9 u t H1 locs1 ht hvm hw hB hz hk hS1 e1 e2 e3 => kx E hB.1 H1 locs1 ls rest q9 ce (by rw [← ht]; exact hB.2) hS1 hl e1 e2 e3) (fun r1 u t H1 locs1 ht hvm hw hB hz hk hS1 => k r1 hw H1 locs1 ls (by rw [← ht]; exact hB) hS1 hl)
theorem gj_cVR (C : gw_C K Γ cc nL own) (cv : gw_cv own index y c2 maxL ret n) {a q ci : Nat} {fs : List Value} {qq : vw_C} {res : Nat ⊕ String} (hM : gw_MX (gw_l K) y [.code y c2 maxL ret] rm mc ms Γ (.ref a :: As) ws (gw_qR Γ res ws1) (gw_x Γ res ws1)) (hn : As.length = n) (hrest : (rest.map fun v => v.category).sum ≤ 8) (he : ws[q]? = some (a, .inr (ci, fs))) (hci : vwCl[ci]? = some qq) (hq : qq.1 = y.cls) (hd : decode cc pc = .ok (.invokevirtual index, 3)) (hr : gw_rm rm R maxL mc ms cells slots) (hst : As.reverse ++ .ref a :: rest = st) (kx : ∀ E : String, res = .inr E → gw_JX K Γ R (cells + mc) (slots + ms) ws1 pc lv E) (k : ∀ k0 : Nat, res = .inl k0 → gw_J K Γ R (cells + mc) (slots + ms) ws1 (pc + 3) lv (.ref (gw_a Γ k0) :: rest)) : gw_J K Γ R cells slots ws pc lv st := fun H locs ls hP hS hl => gw_callq (gw_runVX C cv hM hn hrest he hci hq hd hr hst hP hS hl) hS (fun q _ h => h) (fun q h => h) (fun q _ h => h) (fun E ce q9 u t H1 locs1 ht hvm hw hB hz hk hS1 e1 e2 e3 => kx E hB.1 H1 locs1 ls rest q9 ce (by rw [← ht]; exact hB.2) hS1 hl e1 e2 e3) (fun r1 u t H1 locs1 ht hvm hw hB hz hk hS1 => by
  obtain ⟨k0, e1, rfl⟩ := hw
  exact k k0 e1 H1 locs1 ls (by rw [← ht]; exact hB) hS1 hl)
theorem gj_cSi (C : gw_C K Γ cc nL own) (cv : gw_cs own index y c2 maxL ret n) {r : Int32} (hM : gw_M (gw_l K) y [.code y c2 maxL ret] rm mc ms Γ As ws (gw_qi Γ r ws1)) (hn : As.length = n) (hrest : (rest.map fun v => v.category).sum ≤ 8) (hd : decode cc pc = .ok (.invokestatic index, 3)) (hr : gw_rm rm R maxL mc ms cells slots) (hst : As.reverse ++ rest = st) (k : gw_J K Γ R (cells + mc) (slots + ms) ws1 (pc + 3) lv (.int r :: rest)) : gw_J K Γ R cells slots ws pc lv st := fun H locs ls hP hS hl => va_calli (gw_runS C cv hM hn hrest hd hr hst hP hS hl) hS (fun q _ h => h) (fun q h => h) (fun r1 u t H1 locs1 ht hvm hw hB hz hk hS1 => by
  cases hw
  exact k H1 locs1 ls (by rw [← ht]; exact hB) hS1 hl)
theorem gj_cSv (C : gw_C K Γ cc nL own) (cv : gw_cs own index y c2 maxL ret n)  (hM : gw_M (gw_l K) y [.code y c2 maxL ret] rm mc ms Γ As ws (gw_qv Γ ws1)) (hn : As.length = n) (hrest : (rest.map fun v => v.category).sum ≤ 8) (hd : decode cc pc = .ok (.invokestatic index, 3)) (hr : gw_rm rm R maxL mc ms cells slots) (hst : As.reverse ++ rest = st) (k : gw_J K Γ R (cells + mc) (slots + ms) ws1 (pc + 3) lv rest) : gw_J K Γ R cells slots ws pc lv st := fun H locs ls hP hS hl => va_callv (gw_runS C cv hM hn hrest hd hr hst hP hS hl) hS (fun q _ h => h) (fun q h => h) (fun u t H1 locs1 ht hvm hw hB hz hk hS1 => k H1 locs1 ls (by rw [← ht]; exact hB) hS1 hl)
theorem gj_cSr (C : gw_C K Γ cc nL own) (cv : gw_cs own index y c2 maxL ret n) {k0 : Nat} (hM : gw_M (gw_l K) y [.code y c2 maxL ret] rm mc ms Γ As ws (gw_qr Γ k0 ws1)) (hn : As.length = n) (hrest : (rest.map fun v => v.category).sum ≤ 8) (hd : decode cc pc = .ok (.invokestatic index, 3)) (hr : gw_rm rm R maxL mc ms cells slots) (hst : As.reverse ++ rest = st) (k : gw_J K Γ R (cells + mc) (slots + ms) ws1 (pc + 3) lv (.ref (gw_a Γ k0) :: rest)) : gw_J K Γ R cells slots ws pc lv st := fun H locs ls hP hS hl => va_callq (gw_runS C cv hM hn hrest hd hr hst hP hS hl) hS (fun q _ h => h) (fun q h => h) (fun r1 u t H1 locs1 ht hvm hw hB hz hk hS1 => by
  cases hw
  exact k H1 locs1 ls (by rw [← ht]; exact hB) hS1 hl)
theorem gj_cSI (C : gw_C K Γ cc nL own) (cv : gw_cs own index y c2 maxL ret n) {res : Int32 ⊕ String} (hM : gw_MX (gw_l K) y [.code y c2 maxL ret] rm mc ms Γ As ws (gw_qI Γ res ws1) (gw_x Γ res ws1)) (hn : As.length = n) (hrest : (rest.map fun v => v.category).sum ≤ 8) (hd : decode cc pc = .ok (.invokestatic index, 3)) (hr : gw_rm rm R maxL mc ms cells slots) (hst : As.reverse ++ rest = st) (kx : ∀ E : String, res = .inr E → gw_JX K Γ R (cells + mc) (slots + ms) ws1 pc lv E) (k : ∀ r : Int32, res = .inl r → gw_J K Γ R (cells + mc) (slots + ms) ws1 (pc + 3) lv (.int r :: rest)) : gw_J K Γ R cells slots ws pc lv st := fun H locs ls hP hS hl => vx_calli (gw_runSX C cv hM hn hrest hd hr hst hP hS hl) hS (fun q _ h => h) (fun q h => h) (fun q _ h => h) (fun E ce q9 u t H1 locs1 ht hvm hw hB hz hk hS1 e1 e2 e3 => kx E hB.1 H1 locs1 ls rest q9 ce (by rw [← ht]; exact hB.2) hS1 hl e1 e2 e3) (fun r1 u t H1 locs1 ht hvm hw hB hz hk hS1 => k r1 hw H1 locs1 ls (by rw [← ht]; exact hB) hS1 hl)
theorem gj_cSR (C : gw_C K Γ cc nL own) (cv : gw_cs own index y c2 maxL ret n) {res : Nat ⊕ String} (hM : gw_MX (gw_l K) y [.code y c2 maxL ret] rm mc ms Γ As ws (gw_qR Γ res ws1) (gw_x Γ res ws1)) (hn : As.length = n) (hrest : (rest.map fun v => v.category).sum ≤ 8) (hd : decode cc pc = .ok (.invokestatic index, 3)) (hr : gw_rm rm R maxL mc ms cells slots) (hst : As.reverse ++ rest = st) (kx : ∀ E : String, res = .inr E → gw_JX K Γ R (cells + mc) (slots + ms) ws1 pc lv E) (k : ∀ k0 : Nat, res = .inl k0 → gw_J K Γ R (cells + mc) (slots + ms) ws1 (pc + 3) lv (.ref (gw_a Γ k0) :: rest)) : gw_J K Γ R cells slots ws pc lv st := fun H locs ls hP hS hl => gw_callq (gw_runSX C cv hM hn hrest hd hr hst hP hS hl) hS (fun q _ h => h) (fun q h => h) (fun q _ h => h) (fun E ce q9 u t H1 locs1 ht hvm hw hB hz hk hS1 e1 e2 e3 => kx E hB.1 H1 locs1 ls rest q9 ce (by rw [← ht]; exact hB.2) hS1 hl e1 e2 e3) (fun r1 u t H1 locs1 ht hvm hw hB hz hk hS1 => by
  obtain ⟨k0, e1, rfl⟩ := hw
  exact k k0 e1 H1 locs1 ls (by rw [← ht]; exact hB) hS1 hl)
end gwK
end

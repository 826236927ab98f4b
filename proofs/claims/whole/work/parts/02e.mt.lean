theorem jMt_ok_3 : ((((jMt.drop 60).take 20).zip ((jMp.drop 60).take 20)).all (fun q => jRok q.1 q.2)) = true := by decide +kernel
